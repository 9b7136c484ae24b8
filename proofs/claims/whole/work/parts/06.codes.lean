/-! each method's code stands among the words -/
def px_ck (m : Nat) : Prop := m = 0 ∨ lw_tbl[px_pc m]? = some (.code (px_y m) (px_bc m) (px_nl m) (px_rt m))
set_option maxRecDepth 100000 in
theorem px_k1 : px_ck 1 := Or.inr (by rfl)
set_option maxRecDepth 100000 in
theorem px_k2 : px_ck 2 := Or.inr (by rfl)
set_option maxRecDepth 100000 in
theorem px_k3 : px_ck 3 := Or.inr (by rfl)
set_option maxRecDepth 100000 in
theorem px_k4 : px_ck 4 := Or.inr (by rfl)
set_option maxRecDepth 100000 in
theorem px_k5 : px_ck 5 := Or.inr (by rfl)
set_option maxRecDepth 100000 in
theorem px_k6 : px_ck 6 := Or.inr (by rfl)
set_option maxRecDepth 100000 in
theorem px_k7 : px_ck 7 := Or.inr (by rfl)
set_option maxRecDepth 100000 in
theorem px_k8 : px_ck 8 := Or.inr (by rfl)
set_option maxRecDepth 100000 in
theorem px_k9 : px_ck 9 := Or.inr (by rfl)
set_option maxRecDepth 100000 in
theorem px_k10 : px_ck 10 := Or.inr (by rfl)
set_option maxRecDepth 100000 in
theorem px_k11 : px_ck 11 := Or.inr (by rfl)
set_option maxRecDepth 100000 in
theorem px_k12 : px_ck 12 := Or.inr (by rfl)
set_option maxRecDepth 100000 in
theorem px_k13 : px_ck 13 := Or.inr (by rfl)
set_option maxRecDepth 100000 in
theorem px_k14 : px_ck 14 := Or.inr (by rfl)
set_option maxRecDepth 100000 in
theorem px_k15 : px_ck 15 := Or.inr (by rfl)
set_option maxRecDepth 100000 in
theorem px_k16 : px_ck 16 := Or.inr (by rfl)
set_option maxRecDepth 100000 in
theorem px_k17 : px_ck 17 := Or.inr (by rfl)
set_option maxRecDepth 100000 in
theorem px_k18 : px_ck 18 := Or.inr (by rfl)
set_option maxRecDepth 100000 in
theorem px_k19 : px_ck 19 := Or.inr (by rfl)
set_option maxRecDepth 100000 in
theorem px_k20 : px_ck 20 := Or.inr (by rfl)
set_option maxRecDepth 100000 in
theorem px_k21 : px_ck 21 := Or.inr (by rfl)
set_option maxRecDepth 100000 in
theorem px_k22 : px_ck 22 := Or.inr (by rfl)
set_option maxRecDepth 100000 in
theorem px_k23 : px_ck 23 := Or.inr (by rfl)
set_option maxRecDepth 100000 in
theorem px_k24 : px_ck 24 := Or.inr (by rfl)
set_option maxRecDepth 100000 in
theorem px_k25 : px_ck 25 := Or.inr (by rfl)
set_option maxRecDepth 100000 in
theorem px_k26 : px_ck 26 := Or.inr (by rfl)
set_option maxRecDepth 100000 in
theorem px_k27 : px_ck 27 := Or.inr (by rfl)
set_option maxRecDepth 100000 in
theorem px_k28 : px_ck 28 := Or.inr (by rfl)
set_option maxRecDepth 100000 in
theorem px_k29 : px_ck 29 := Or.inr (by rfl)
set_option maxRecDepth 100000 in
theorem px_k30 : px_ck 30 := Or.inr (by rfl)
set_option maxRecDepth 100000 in
theorem px_k31 : px_ck 31 := Or.inr (by rfl)
set_option maxRecDepth 100000 in
theorem px_k32 : px_ck 32 := Or.inr (by rfl)
set_option maxRecDepth 100000 in
theorem px_k33 : px_ck 33 := Or.inr (by rfl)
set_option maxRecDepth 100000 in
theorem px_k34 : px_ck 34 := Or.inr (by rfl)
set_option maxRecDepth 100000 in
theorem px_k35 : px_ck 35 := Or.inr (by rfl)
set_option maxRecDepth 100000 in
theorem px_k36 : px_ck 36 := Or.inr (by rfl)
set_option maxRecDepth 100000 in
theorem px_k37 : px_ck 37 := Or.inr (by rfl)
set_option maxRecDepth 100000 in
theorem px_k38 : px_ck 38 := Or.inr (by rfl)
set_option maxRecDepth 100000 in
theorem px_k39 : px_ck 39 := Or.inr (by rfl)
set_option maxRecDepth 100000 in
theorem px_k40 : px_ck 40 := Or.inr (by rfl)
set_option maxRecDepth 100000 in
theorem px_k41 : px_ck 41 := Or.inr (by rfl)
set_option maxRecDepth 100000 in
theorem px_k42 : px_ck 42 := Or.inr (by rfl)
set_option maxRecDepth 100000 in
theorem px_k43 : px_ck 43 := Or.inr (by rfl)
set_option maxRecDepth 100000 in
theorem px_k44 : px_ck 44 := Or.inr (by rfl)
set_option maxRecDepth 100000 in
theorem px_k45 : px_ck 45 := Or.inr (by rfl)
set_option maxRecDepth 100000 in
theorem px_k46 : px_ck 46 := Or.inr (by rfl)
set_option maxRecDepth 100000 in
theorem px_k47 : px_ck 47 := Or.inr (by rfl)
set_option maxRecDepth 100000 in
theorem px_k48 : px_ck 48 := Or.inr (by rfl)
set_option maxRecDepth 100000 in
theorem px_k49 : px_ck 49 := Or.inr (by rfl)
set_option maxRecDepth 100000 in
theorem px_k50 : px_ck 50 := Or.inr (by rfl)
set_option maxRecDepth 100000 in
theorem px_k51 : px_ck 51 := Or.inr (by rfl)
set_option maxRecDepth 100000 in
theorem px_k52 : px_ck 52 := Or.inr (by rfl)
set_option maxRecDepth 100000 in
theorem px_k53 : px_ck 53 := Or.inr (by rfl)
set_option maxRecDepth 100000 in
theorem px_k54 : px_ck 54 := Or.inr (by rfl)
set_option maxRecDepth 100000 in
theorem px_k55 : px_ck 55 := Or.inr (by rfl)
set_option maxRecDepth 100000 in
theorem px_k56 : px_ck 56 := Or.inr (by rfl)
set_option maxRecDepth 100000 in
theorem px_k57 : px_ck 57 := Or.inr (by rfl)
set_option maxRecDepth 100000 in
theorem px_k58 : px_ck 58 := Or.inr (by rfl)
set_option maxRecDepth 100000 in
theorem px_k59 : px_ck 59 := Or.inr (by rfl)
set_option maxRecDepth 100000 in
theorem px_k60 : px_ck 60 := Or.inr (by rfl)
set_option maxRecDepth 100000 in
theorem px_k61 : px_ck 61 := Or.inr (by rfl)
set_option maxRecDepth 100000 in
theorem px_k62 : px_ck 62 := Or.inr (by rfl)
set_option maxRecDepth 100000 in
theorem px_k63 : px_ck 63 := Or.inr (by rfl)
set_option maxRecDepth 100000 in
theorem px_k64 : px_ck 64 := Or.inr (by rfl)
set_option maxRecDepth 100000 in
theorem px_k65 : px_ck 65 := Or.inr (by rfl)
set_option maxRecDepth 100000 in
theorem px_k66 : px_ck 66 := Or.inr (by rfl)
set_option maxRecDepth 100000 in
theorem px_k67 : px_ck 67 := Or.inr (by rfl)
set_option maxRecDepth 100000 in
theorem px_k68 : px_ck 68 := Or.inr (by rfl)
set_option maxRecDepth 100000 in
theorem px_k69 : px_ck 69 := Or.inr (by rfl)
set_option maxRecDepth 100000 in
theorem px_k70 : px_ck 70 := Or.inr (by rfl)
set_option maxRecDepth 100000 in
theorem px_k71 : px_ck 71 := Or.inr (by rfl)
set_option maxRecDepth 100000 in
theorem px_k72 : px_ck 72 := Or.inr (by rfl)
set_option maxRecDepth 100000 in
theorem px_k73 : px_ck 73 := Or.inr (by rfl)
set_option maxRecDepth 100000 in
theorem px_k74 : px_ck 74 := Or.inr (by rfl)
set_option maxRecDepth 100000 in
theorem px_k75 : px_ck 75 := Or.inr (by rfl)
set_option maxRecDepth 100000 in
theorem px_k76 : px_ck 76 := Or.inr (by rfl)
set_option maxRecDepth 100000 in
theorem px_k77 : px_ck 77 := Or.inr (by rfl)
set_option maxRecDepth 100000 in
theorem px_k78 : px_ck 78 := Or.inr (by rfl)
set_option maxRecDepth 100000 in
theorem px_k79 : px_ck 79 := Or.inr (by rfl)
set_option maxRecDepth 100000 in
theorem px_k80 : px_ck 80 := Or.inr (by rfl)
set_option maxRecDepth 100000 in
theorem px_k81 : px_ck 81 := Or.inr (by rfl)
set_option maxRecDepth 100000 in
theorem px_k82 : px_ck 82 := Or.inr (by rfl)
set_option maxRecDepth 100000 in
theorem px_k83 : px_ck 83 := Or.inr (by rfl)
set_option maxRecDepth 100000 in
theorem px_k84 : px_ck 84 := Or.inr (by rfl)
set_option maxRecDepth 100000 in
theorem px_k85 : px_ck 85 := Or.inr (by rfl)
set_option maxRecDepth 100000 in
theorem px_k86 : px_ck 86 := Or.inr (by rfl)
set_option maxRecDepth 100000 in
theorem px_k87 : px_ck 87 := Or.inr (by rfl)
set_option maxRecDepth 100000 in
theorem px_k88 : px_ck 88 := Or.inr (by rfl)
set_option maxRecDepth 100000 in
theorem px_k89 : px_ck 89 := Or.inr (by rfl)
set_option maxRecDepth 100000 in
theorem px_k90 : px_ck 90 := Or.inr (by rfl)
set_option maxRecDepth 100000 in
theorem px_k91 : px_ck 91 := Or.inr (by rfl)
set_option maxRecDepth 100000 in
theorem px_k92 : px_ck 92 := Or.inr (by rfl)
set_option maxRecDepth 100000 in
theorem px_k93 : px_ck 93 := Or.inr (by rfl)
set_option maxRecDepth 100000 in
theorem px_k94 : px_ck 94 := Or.inr (by rfl)
set_option maxRecDepth 100000 in
theorem px_k95 : px_ck 95 := Or.inr (by rfl)
set_option maxRecDepth 100000 in
theorem px_k96 : px_ck 96 := Or.inr (by rfl)
set_option maxRecDepth 100000 in
theorem px_k97 : px_ck 97 := Or.inr (by rfl)
set_option maxRecDepth 100000 in
theorem px_k98 : px_ck 98 := Or.inr (by rfl)
set_option maxRecDepth 100000 in
theorem px_k99 : px_ck 99 := Or.inr (by rfl)
set_option maxRecDepth 100000 in
theorem px_k100 : px_ck 100 := Or.inr (by rfl)
set_option maxRecDepth 100000 in
theorem px_k101 : px_ck 101 := Or.inr (by rfl)
set_option maxRecDepth 100000 in
theorem px_k102 : px_ck 102 := Or.inr (by rfl)
set_option maxRecDepth 100000 in
theorem px_k103 : px_ck 103 := Or.inr (by rfl)
set_option maxRecDepth 100000 in
theorem px_k104 : px_ck 104 := Or.inr (by rfl)
set_option maxRecDepth 100000 in
theorem px_k105 : px_ck 105 := Or.inr (by rfl)
set_option maxRecDepth 100000 in
theorem px_k106 : px_ck 106 := Or.inr (by rfl)
set_option maxRecDepth 100000 in
theorem px_k107 : px_ck 107 := Or.inr (by rfl)
set_option maxRecDepth 100000 in
theorem px_k108 : px_ck 108 := Or.inr (by rfl)
set_option maxRecDepth 100000 in
theorem px_k109 : px_ck 109 := Or.inr (by rfl)
set_option maxRecDepth 100000 in
theorem px_k110 : px_ck 110 := Or.inr (by rfl)
set_option maxRecDepth 100000 in
theorem px_k111 : px_ck 111 := Or.inr (by rfl)
set_option maxRecDepth 100000 in
theorem px_k112 : px_ck 112 := Or.inr (by rfl)
set_option maxRecDepth 100000 in
theorem px_k113 : px_ck 113 := Or.inr (by rfl)
set_option maxRecDepth 100000 in
theorem px_k114 : px_ck 114 := Or.inr (by rfl)
set_option maxRecDepth 100000 in
theorem px_k115 : px_ck 115 := Or.inr (by rfl)
set_option maxRecDepth 100000 in
theorem px_k116 : px_ck 116 := Or.inr (by rfl)
set_option maxRecDepth 100000 in
theorem px_k117 : px_ck 117 := Or.inr (by rfl)
set_option maxRecDepth 100000 in
theorem px_k118 : px_ck 118 := Or.inr (by rfl)
set_option maxRecDepth 100000 in
theorem px_k119 : px_ck 119 := Or.inr (by rfl)
set_option maxRecDepth 100000 in
theorem px_k120 : px_ck 120 := Or.inr (by rfl)
set_option maxRecDepth 100000 in
theorem px_k121 : px_ck 121 := Or.inr (by rfl)
set_option maxRecDepth 100000 in
theorem px_k122 : px_ck 122 := Or.inr (by rfl)
set_option maxRecDepth 100000 in
theorem px_k123 : px_ck 123 := Or.inr (by rfl)
set_option maxRecDepth 100000 in
theorem px_k124 : px_ck 124 := Or.inr (by rfl)
set_option maxRecDepth 100000 in
theorem px_k125 : px_ck 125 := Or.inr (by rfl)
set_option maxRecDepth 100000 in
theorem px_k126 : px_ck 126 := Or.inr (by rfl)
set_option maxRecDepth 100000 in
theorem px_k127 : px_ck 127 := Or.inr (by rfl)
set_option maxRecDepth 100000 in
theorem px_k128 : px_ck 128 := Or.inr (by rfl)
set_option maxRecDepth 100000 in
theorem px_k129 : px_ck 129 := Or.inr (by rfl)
set_option maxRecDepth 100000 in
theorem px_k130 : px_ck 130 := Or.inr (by rfl)
set_option maxRecDepth 100000 in
theorem px_k131 : px_ck 131 := Or.inr (by rfl)
set_option maxRecDepth 100000 in
theorem px_k132 : px_ck 132 := Or.inr (by rfl)
set_option maxRecDepth 100000 in
theorem px_k133 : px_ck 133 := Or.inr (by rfl)
set_option maxRecDepth 100000 in
theorem px_k134 : px_ck 134 := Or.inr (by rfl)
set_option maxRecDepth 100000 in
theorem px_k135 : px_ck 135 := Or.inr (by rfl)
set_option maxRecDepth 100000 in
theorem px_k136 : px_ck 136 := Or.inr (by rfl)
set_option maxRecDepth 100000 in
theorem px_k137 : px_ck 137 := Or.inr (by rfl)
set_option maxRecDepth 100000 in
theorem px_k138 : px_ck 138 := Or.inr (by rfl)
set_option maxRecDepth 100000 in
theorem px_k139 : px_ck 139 := Or.inr (by rfl)
set_option maxRecDepth 100000 in
theorem px_k140 : px_ck 140 := Or.inr (by rfl)
set_option maxRecDepth 100000 in
theorem px_k141 : px_ck 141 := Or.inr (by rfl)
set_option maxRecDepth 100000 in
theorem px_k142 : px_ck 142 := Or.inr (by rfl)
set_option maxRecDepth 100000 in
theorem px_k143 : px_ck 143 := Or.inr (by rfl)
set_option maxRecDepth 100000 in
theorem px_k144 : px_ck 144 := Or.inr (by rfl)
set_option maxRecDepth 100000 in
theorem px_k145 : px_ck 145 := Or.inr (by rfl)
set_option maxRecDepth 100000 in
theorem px_k146 : px_ck 146 := Or.inr (by rfl)
set_option maxRecDepth 100000 in
theorem px_k147 : px_ck 147 := Or.inr (by rfl)
set_option maxRecDepth 100000 in
theorem px_k148 : px_ck 148 := Or.inr (by rfl)
set_option maxRecDepth 100000 in
theorem px_k149 : px_ck 149 := Or.inr (by rfl)
set_option maxRecDepth 100000 in
theorem px_k150 : px_ck 150 := Or.inr (by rfl)
set_option maxRecDepth 100000 in
theorem px_k151 : px_ck 151 := Or.inr (by rfl)
set_option maxRecDepth 100000 in
theorem px_k152 : px_ck 152 := Or.inr (by rfl)
set_option maxRecDepth 100000 in
theorem px_k153 : px_ck 153 := Or.inr (by rfl)
set_option maxRecDepth 100000 in
theorem px_k154 : px_ck 154 := Or.inr (by rfl)
set_option maxRecDepth 100000 in
theorem px_k155 : px_ck 155 := Or.inr (by rfl)
set_option maxRecDepth 100000 in
theorem px_k156 : px_ck 156 := Or.inr (by rfl)
set_option maxRecDepth 100000 in
theorem px_k157 : px_ck 157 := Or.inr (by rfl)
set_option maxRecDepth 100000 in
theorem px_k158 : px_ck 158 := Or.inr (by rfl)
set_option maxRecDepth 100000 in
theorem px_k159 : px_ck 159 := Or.inr (by rfl)
set_option maxRecDepth 100000 in
theorem px_k160 : px_ck 160 := Or.inr (by rfl)
set_option maxRecDepth 100000 in
theorem px_k161 : px_ck 161 := Or.inr (by rfl)
set_option maxRecDepth 100000 in
theorem px_k162 : px_ck 162 := Or.inr (by rfl)
set_option maxRecDepth 100000 in
theorem px_k163 : px_ck 163 := Or.inr (by rfl)
set_option maxRecDepth 100000 in
theorem px_k164 : px_ck 164 := Or.inr (by rfl)
set_option maxRecDepth 100000 in
theorem px_k165 : px_ck 165 := Or.inr (by rfl)
set_option maxRecDepth 100000 in
theorem px_k166 : px_ck 166 := Or.inr (by rfl)
set_option maxRecDepth 100000 in
theorem px_k167 : px_ck 167 := Or.inr (by rfl)
set_option maxRecDepth 100000 in
theorem px_k168 : px_ck 168 := Or.inr (by rfl)
set_option maxRecDepth 100000 in
theorem px_k169 : px_ck 169 := Or.inr (by rfl)
set_option maxRecDepth 100000 in
theorem px_k170 : px_ck 170 := Or.inr (by rfl)
set_option maxRecDepth 100000 in
theorem px_k171 : px_ck 171 := Or.inr (by rfl)
set_option maxRecDepth 100000 in
theorem px_k172 : px_ck 172 := Or.inr (by rfl)
set_option maxRecDepth 100000 in
theorem px_k173 : px_ck 173 := Or.inr (by rfl)
set_option maxRecDepth 100000 in
theorem px_k174 : px_ck 174 := Or.inr (by rfl)
set_option maxRecDepth 100000 in
theorem px_k175 : px_ck 175 := Or.inr (by rfl)
set_option maxRecDepth 100000 in
theorem px_k176 : px_ck 176 := Or.inr (by rfl)
set_option maxRecDepth 100000 in
theorem px_k177 : px_ck 177 := Or.inr (by rfl)
set_option maxRecDepth 100000 in
theorem px_k178 : px_ck 178 := Or.inr (by rfl)
set_option maxRecDepth 100000 in
theorem px_k179 : px_ck 179 := Or.inr (by rfl)
set_option maxRecDepth 100000 in
theorem px_k180 : px_ck 180 := Or.inr (by rfl)
set_option maxRecDepth 100000 in
theorem px_k181 : px_ck 181 := Or.inr (by rfl)
set_option maxRecDepth 100000 in
theorem px_k182 : px_ck 182 := Or.inr (by rfl)
set_option maxRecDepth 100000 in
theorem px_k183 : px_ck 183 := Or.inr (by rfl)
set_option maxRecDepth 100000 in
theorem px_k184 : px_ck 184 := Or.inr (by rfl)
set_option maxRecDepth 100000 in
theorem px_k185 : px_ck 185 := Or.inr (by rfl)
set_option maxRecDepth 100000 in
theorem px_k186 : px_ck 186 := Or.inr (by rfl)
set_option maxRecDepth 100000 in
theorem px_k187 : px_ck 187 := Or.inr (by rfl)
set_option maxRecDepth 100000 in
theorem px_k188 : px_ck 188 := Or.inr (by rfl)
set_option maxRecDepth 100000 in
theorem px_k189 : px_ck 189 := Or.inr (by rfl)
set_option maxRecDepth 100000 in
theorem px_k190 : px_ck 190 := Or.inr (by rfl)
set_option maxRecDepth 100000 in
theorem px_k191 : px_ck 191 := Or.inr (by rfl)
set_option maxRecDepth 100000 in
theorem px_k192 : px_ck 192 := Or.inr (by rfl)
set_option maxRecDepth 100000 in
theorem px_k193 : px_ck 193 := Or.inr (by rfl)
set_option maxRecDepth 100000 in
theorem px_k194 : px_ck 194 := Or.inr (by rfl)
set_option maxRecDepth 100000 in
theorem px_k195 : px_ck 195 := Or.inr (by rfl)
set_option maxRecDepth 100000 in
theorem px_k196 : px_ck 196 := Or.inr (by rfl)
set_option maxRecDepth 100000 in
theorem px_k197 : px_ck 197 := Or.inr (by rfl)
set_option maxRecDepth 100000 in
theorem px_k198 : px_ck 198 := Or.inr (by rfl)
set_option maxRecDepth 100000 in
theorem px_k199 : px_ck 199 := Or.inr (by rfl)
set_option maxRecDepth 100000 in
theorem px_k200 : px_ck 200 := Or.inr (by rfl)
set_option maxRecDepth 100000 in
theorem px_k201 : px_ck 201 := Or.inr (by rfl)
set_option maxRecDepth 100000 in
theorem px_k202 : px_ck 202 := Or.inr (by rfl)
set_option maxRecDepth 100000 in
theorem px_k203 : px_ck 203 := Or.inr (by rfl)
set_option maxRecDepth 100000 in
theorem px_k204 : px_ck 204 := Or.inr (by rfl)
set_option maxRecDepth 100000 in
theorem px_k205 : px_ck 205 := Or.inr (by rfl)
set_option maxRecDepth 100000 in
theorem px_k206 : px_ck 206 := Or.inr (by rfl)
set_option maxRecDepth 100000 in
theorem px_k207 : px_ck 207 := Or.inr (by rfl)
set_option maxRecDepth 100000 in
theorem px_k208 : px_ck 208 := Or.inr (by rfl)
set_option maxRecDepth 100000 in
theorem px_k209 : px_ck 209 := Or.inr (by rfl)
set_option maxRecDepth 100000 in
theorem px_k210 : px_ck 210 := Or.inr (by rfl)
set_option maxRecDepth 100000 in
theorem px_k211 : px_ck 211 := Or.inr (by rfl)
set_option maxRecDepth 100000 in
theorem px_k212 : px_ck 212 := Or.inr (by rfl)
set_option maxRecDepth 100000 in
theorem px_k213 : px_ck 213 := Or.inr (by rfl)
set_option maxRecDepth 100000 in
theorem px_k214 : px_ck 214 := Or.inr (by rfl)
set_option maxRecDepth 100000 in
theorem px_k215 : px_ck 215 := Or.inr (by rfl)
set_option maxRecDepth 100000 in
theorem px_k216 : px_ck 216 := Or.inr (by rfl)
set_option maxRecDepth 100000 in
theorem px_k217 : px_ck 217 := Or.inr (by rfl)
set_option maxRecDepth 100000 in
theorem px_k218 : px_ck 218 := Or.inr (by rfl)
set_option maxRecDepth 100000 in
theorem px_k219 : px_ck 219 := Or.inr (by rfl)
set_option maxRecDepth 100000 in
theorem px_k220 : px_ck 220 := Or.inr (by rfl)
set_option maxRecDepth 100000 in
theorem px_k221 : px_ck 221 := Or.inr (by rfl)
set_option maxRecDepth 100000 in
theorem px_k222 : px_ck 222 := Or.inr (by rfl)
set_option maxRecDepth 100000 in
theorem px_k223 : px_ck 223 := Or.inr (by rfl)
set_option maxRecDepth 100000 in
theorem px_k224 : px_ck 224 := Or.inr (by rfl)
set_option maxRecDepth 100000 in
theorem px_k225 : px_ck 225 := Or.inr (by rfl)
set_option maxRecDepth 100000 in
theorem px_k226 : px_ck 226 := Or.inr (by rfl)
set_option maxRecDepth 100000 in
theorem px_k227 : px_ck 227 := Or.inr (by rfl)
set_option maxRecDepth 100000 in
theorem px_k228 : px_ck 228 := Or.inr (by rfl)
set_option maxRecDepth 100000 in
theorem px_k229 : px_ck 229 := Or.inr (by rfl)
set_option maxRecDepth 100000 in
theorem px_k230 : px_ck 230 := Or.inr (by rfl)
set_option maxRecDepth 100000 in
theorem px_k231 : px_ck 231 := Or.inr (by rfl)
set_option maxRecDepth 100000 in
theorem px_k232 : px_ck 232 := Or.inr (by rfl)
set_option maxRecDepth 100000 in
theorem px_k233 : px_ck 233 := Or.inr (by rfl)
set_option maxRecDepth 100000 in
theorem px_k234 : px_ck 234 := Or.inr (by rfl)
set_option maxRecDepth 100000 in
theorem px_k235 : px_ck 235 := Or.inr (by rfl)
set_option maxRecDepth 100000 in
theorem px_k236 : px_ck 236 := Or.inr (by rfl)
set_option maxRecDepth 100000 in
theorem px_k237 : px_ck 237 := Or.inr (by rfl)
theorem px_q0 : ∀ a, a < 1 → px_ck a := lt_s (p := px_ck) lt_0 (Or.inl rfl)
theorem px_q1 : ∀ a, a < 2 → px_ck a := lt_s (p := px_ck) px_q0 px_k1
theorem px_q2 : ∀ a, a < 3 → px_ck a := lt_s (p := px_ck) px_q1 px_k2
theorem px_q3 : ∀ a, a < 4 → px_ck a := lt_s (p := px_ck) px_q2 px_k3
theorem px_q4 : ∀ a, a < 5 → px_ck a := lt_s (p := px_ck) px_q3 px_k4
theorem px_q5 : ∀ a, a < 6 → px_ck a := lt_s (p := px_ck) px_q4 px_k5
theorem px_q6 : ∀ a, a < 7 → px_ck a := lt_s (p := px_ck) px_q5 px_k6
theorem px_q7 : ∀ a, a < 8 → px_ck a := lt_s (p := px_ck) px_q6 px_k7
theorem px_q8 : ∀ a, a < 9 → px_ck a := lt_s (p := px_ck) px_q7 px_k8
theorem px_q9 : ∀ a, a < 10 → px_ck a := lt_s (p := px_ck) px_q8 px_k9
theorem px_q10 : ∀ a, a < 11 → px_ck a := lt_s (p := px_ck) px_q9 px_k10
theorem px_q11 : ∀ a, a < 12 → px_ck a := lt_s (p := px_ck) px_q10 px_k11
theorem px_q12 : ∀ a, a < 13 → px_ck a := lt_s (p := px_ck) px_q11 px_k12
theorem px_q13 : ∀ a, a < 14 → px_ck a := lt_s (p := px_ck) px_q12 px_k13
theorem px_q14 : ∀ a, a < 15 → px_ck a := lt_s (p := px_ck) px_q13 px_k14
theorem px_q15 : ∀ a, a < 16 → px_ck a := lt_s (p := px_ck) px_q14 px_k15
theorem px_q16 : ∀ a, a < 17 → px_ck a := lt_s (p := px_ck) px_q15 px_k16
theorem px_q17 : ∀ a, a < 18 → px_ck a := lt_s (p := px_ck) px_q16 px_k17
theorem px_q18 : ∀ a, a < 19 → px_ck a := lt_s (p := px_ck) px_q17 px_k18
theorem px_q19 : ∀ a, a < 20 → px_ck a := lt_s (p := px_ck) px_q18 px_k19
theorem px_q20 : ∀ a, a < 21 → px_ck a := lt_s (p := px_ck) px_q19 px_k20
theorem px_q21 : ∀ a, a < 22 → px_ck a := lt_s (p := px_ck) px_q20 px_k21
theorem px_q22 : ∀ a, a < 23 → px_ck a := lt_s (p := px_ck) px_q21 px_k22
theorem px_q23 : ∀ a, a < 24 → px_ck a := lt_s (p := px_ck) px_q22 px_k23
theorem px_q24 : ∀ a, a < 25 → px_ck a := lt_s (p := px_ck) px_q23 px_k24
theorem px_q25 : ∀ a, a < 26 → px_ck a := lt_s (p := px_ck) px_q24 px_k25
theorem px_q26 : ∀ a, a < 27 → px_ck a := lt_s (p := px_ck) px_q25 px_k26
theorem px_q27 : ∀ a, a < 28 → px_ck a := lt_s (p := px_ck) px_q26 px_k27
theorem px_q28 : ∀ a, a < 29 → px_ck a := lt_s (p := px_ck) px_q27 px_k28
theorem px_q29 : ∀ a, a < 30 → px_ck a := lt_s (p := px_ck) px_q28 px_k29
theorem px_q30 : ∀ a, a < 31 → px_ck a := lt_s (p := px_ck) px_q29 px_k30
theorem px_q31 : ∀ a, a < 32 → px_ck a := lt_s (p := px_ck) px_q30 px_k31
theorem px_q32 : ∀ a, a < 33 → px_ck a := lt_s (p := px_ck) px_q31 px_k32
theorem px_q33 : ∀ a, a < 34 → px_ck a := lt_s (p := px_ck) px_q32 px_k33
theorem px_q34 : ∀ a, a < 35 → px_ck a := lt_s (p := px_ck) px_q33 px_k34
theorem px_q35 : ∀ a, a < 36 → px_ck a := lt_s (p := px_ck) px_q34 px_k35
theorem px_q36 : ∀ a, a < 37 → px_ck a := lt_s (p := px_ck) px_q35 px_k36
theorem px_q37 : ∀ a, a < 38 → px_ck a := lt_s (p := px_ck) px_q36 px_k37
theorem px_q38 : ∀ a, a < 39 → px_ck a := lt_s (p := px_ck) px_q37 px_k38
theorem px_q39 : ∀ a, a < 40 → px_ck a := lt_s (p := px_ck) px_q38 px_k39
theorem px_q40 : ∀ a, a < 41 → px_ck a := lt_s (p := px_ck) px_q39 px_k40
theorem px_q41 : ∀ a, a < 42 → px_ck a := lt_s (p := px_ck) px_q40 px_k41
theorem px_q42 : ∀ a, a < 43 → px_ck a := lt_s (p := px_ck) px_q41 px_k42
theorem px_q43 : ∀ a, a < 44 → px_ck a := lt_s (p := px_ck) px_q42 px_k43
theorem px_q44 : ∀ a, a < 45 → px_ck a := lt_s (p := px_ck) px_q43 px_k44
theorem px_q45 : ∀ a, a < 46 → px_ck a := lt_s (p := px_ck) px_q44 px_k45
theorem px_q46 : ∀ a, a < 47 → px_ck a := lt_s (p := px_ck) px_q45 px_k46
theorem px_q47 : ∀ a, a < 48 → px_ck a := lt_s (p := px_ck) px_q46 px_k47
theorem px_q48 : ∀ a, a < 49 → px_ck a := lt_s (p := px_ck) px_q47 px_k48
theorem px_q49 : ∀ a, a < 50 → px_ck a := lt_s (p := px_ck) px_q48 px_k49
theorem px_q50 : ∀ a, a < 51 → px_ck a := lt_s (p := px_ck) px_q49 px_k50
theorem px_q51 : ∀ a, a < 52 → px_ck a := lt_s (p := px_ck) px_q50 px_k51
theorem px_q52 : ∀ a, a < 53 → px_ck a := lt_s (p := px_ck) px_q51 px_k52
theorem px_q53 : ∀ a, a < 54 → px_ck a := lt_s (p := px_ck) px_q52 px_k53
theorem px_q54 : ∀ a, a < 55 → px_ck a := lt_s (p := px_ck) px_q53 px_k54
theorem px_q55 : ∀ a, a < 56 → px_ck a := lt_s (p := px_ck) px_q54 px_k55
theorem px_q56 : ∀ a, a < 57 → px_ck a := lt_s (p := px_ck) px_q55 px_k56
theorem px_q57 : ∀ a, a < 58 → px_ck a := lt_s (p := px_ck) px_q56 px_k57
theorem px_q58 : ∀ a, a < 59 → px_ck a := lt_s (p := px_ck) px_q57 px_k58
theorem px_q59 : ∀ a, a < 60 → px_ck a := lt_s (p := px_ck) px_q58 px_k59
theorem px_q60 : ∀ a, a < 61 → px_ck a := lt_s (p := px_ck) px_q59 px_k60
theorem px_q61 : ∀ a, a < 62 → px_ck a := lt_s (p := px_ck) px_q60 px_k61
theorem px_q62 : ∀ a, a < 63 → px_ck a := lt_s (p := px_ck) px_q61 px_k62
theorem px_q63 : ∀ a, a < 64 → px_ck a := lt_s (p := px_ck) px_q62 px_k63
theorem px_q64 : ∀ a, a < 65 → px_ck a := lt_s (p := px_ck) px_q63 px_k64
theorem px_q65 : ∀ a, a < 66 → px_ck a := lt_s (p := px_ck) px_q64 px_k65
theorem px_q66 : ∀ a, a < 67 → px_ck a := lt_s (p := px_ck) px_q65 px_k66
theorem px_q67 : ∀ a, a < 68 → px_ck a := lt_s (p := px_ck) px_q66 px_k67
theorem px_q68 : ∀ a, a < 69 → px_ck a := lt_s (p := px_ck) px_q67 px_k68
theorem px_q69 : ∀ a, a < 70 → px_ck a := lt_s (p := px_ck) px_q68 px_k69
theorem px_q70 : ∀ a, a < 71 → px_ck a := lt_s (p := px_ck) px_q69 px_k70
theorem px_q71 : ∀ a, a < 72 → px_ck a := lt_s (p := px_ck) px_q70 px_k71
theorem px_q72 : ∀ a, a < 73 → px_ck a := lt_s (p := px_ck) px_q71 px_k72
theorem px_q73 : ∀ a, a < 74 → px_ck a := lt_s (p := px_ck) px_q72 px_k73
theorem px_q74 : ∀ a, a < 75 → px_ck a := lt_s (p := px_ck) px_q73 px_k74
theorem px_q75 : ∀ a, a < 76 → px_ck a := lt_s (p := px_ck) px_q74 px_k75
theorem px_q76 : ∀ a, a < 77 → px_ck a := lt_s (p := px_ck) px_q75 px_k76
theorem px_q77 : ∀ a, a < 78 → px_ck a := lt_s (p := px_ck) px_q76 px_k77
theorem px_q78 : ∀ a, a < 79 → px_ck a := lt_s (p := px_ck) px_q77 px_k78
theorem px_q79 : ∀ a, a < 80 → px_ck a := lt_s (p := px_ck) px_q78 px_k79
theorem px_q80 : ∀ a, a < 81 → px_ck a := lt_s (p := px_ck) px_q79 px_k80
theorem px_q81 : ∀ a, a < 82 → px_ck a := lt_s (p := px_ck) px_q80 px_k81
theorem px_q82 : ∀ a, a < 83 → px_ck a := lt_s (p := px_ck) px_q81 px_k82
theorem px_q83 : ∀ a, a < 84 → px_ck a := lt_s (p := px_ck) px_q82 px_k83
theorem px_q84 : ∀ a, a < 85 → px_ck a := lt_s (p := px_ck) px_q83 px_k84
theorem px_q85 : ∀ a, a < 86 → px_ck a := lt_s (p := px_ck) px_q84 px_k85
theorem px_q86 : ∀ a, a < 87 → px_ck a := lt_s (p := px_ck) px_q85 px_k86
theorem px_q87 : ∀ a, a < 88 → px_ck a := lt_s (p := px_ck) px_q86 px_k87
theorem px_q88 : ∀ a, a < 89 → px_ck a := lt_s (p := px_ck) px_q87 px_k88
theorem px_q89 : ∀ a, a < 90 → px_ck a := lt_s (p := px_ck) px_q88 px_k89
theorem px_q90 : ∀ a, a < 91 → px_ck a := lt_s (p := px_ck) px_q89 px_k90
theorem px_q91 : ∀ a, a < 92 → px_ck a := lt_s (p := px_ck) px_q90 px_k91
theorem px_q92 : ∀ a, a < 93 → px_ck a := lt_s (p := px_ck) px_q91 px_k92
theorem px_q93 : ∀ a, a < 94 → px_ck a := lt_s (p := px_ck) px_q92 px_k93
theorem px_q94 : ∀ a, a < 95 → px_ck a := lt_s (p := px_ck) px_q93 px_k94
theorem px_q95 : ∀ a, a < 96 → px_ck a := lt_s (p := px_ck) px_q94 px_k95
theorem px_q96 : ∀ a, a < 97 → px_ck a := lt_s (p := px_ck) px_q95 px_k96
theorem px_q97 : ∀ a, a < 98 → px_ck a := lt_s (p := px_ck) px_q96 px_k97
theorem px_q98 : ∀ a, a < 99 → px_ck a := lt_s (p := px_ck) px_q97 px_k98
theorem px_q99 : ∀ a, a < 100 → px_ck a := lt_s (p := px_ck) px_q98 px_k99
theorem px_q100 : ∀ a, a < 101 → px_ck a := lt_s (p := px_ck) px_q99 px_k100
theorem px_q101 : ∀ a, a < 102 → px_ck a := lt_s (p := px_ck) px_q100 px_k101
theorem px_q102 : ∀ a, a < 103 → px_ck a := lt_s (p := px_ck) px_q101 px_k102
theorem px_q103 : ∀ a, a < 104 → px_ck a := lt_s (p := px_ck) px_q102 px_k103
theorem px_q104 : ∀ a, a < 105 → px_ck a := lt_s (p := px_ck) px_q103 px_k104
theorem px_q105 : ∀ a, a < 106 → px_ck a := lt_s (p := px_ck) px_q104 px_k105
theorem px_q106 : ∀ a, a < 107 → px_ck a := lt_s (p := px_ck) px_q105 px_k106
theorem px_q107 : ∀ a, a < 108 → px_ck a := lt_s (p := px_ck) px_q106 px_k107
theorem px_q108 : ∀ a, a < 109 → px_ck a := lt_s (p := px_ck) px_q107 px_k108
theorem px_q109 : ∀ a, a < 110 → px_ck a := lt_s (p := px_ck) px_q108 px_k109
theorem px_q110 : ∀ a, a < 111 → px_ck a := lt_s (p := px_ck) px_q109 px_k110
theorem px_q111 : ∀ a, a < 112 → px_ck a := lt_s (p := px_ck) px_q110 px_k111
theorem px_q112 : ∀ a, a < 113 → px_ck a := lt_s (p := px_ck) px_q111 px_k112
theorem px_q113 : ∀ a, a < 114 → px_ck a := lt_s (p := px_ck) px_q112 px_k113
theorem px_q114 : ∀ a, a < 115 → px_ck a := lt_s (p := px_ck) px_q113 px_k114
theorem px_q115 : ∀ a, a < 116 → px_ck a := lt_s (p := px_ck) px_q114 px_k115
theorem px_q116 : ∀ a, a < 117 → px_ck a := lt_s (p := px_ck) px_q115 px_k116
theorem px_q117 : ∀ a, a < 118 → px_ck a := lt_s (p := px_ck) px_q116 px_k117
theorem px_q118 : ∀ a, a < 119 → px_ck a := lt_s (p := px_ck) px_q117 px_k118
theorem px_q119 : ∀ a, a < 120 → px_ck a := lt_s (p := px_ck) px_q118 px_k119
theorem px_q120 : ∀ a, a < 121 → px_ck a := lt_s (p := px_ck) px_q119 px_k120
theorem px_q121 : ∀ a, a < 122 → px_ck a := lt_s (p := px_ck) px_q120 px_k121
theorem px_q122 : ∀ a, a < 123 → px_ck a := lt_s (p := px_ck) px_q121 px_k122
theorem px_q123 : ∀ a, a < 124 → px_ck a := lt_s (p := px_ck) px_q122 px_k123
theorem px_q124 : ∀ a, a < 125 → px_ck a := lt_s (p := px_ck) px_q123 px_k124
theorem px_q125 : ∀ a, a < 126 → px_ck a := lt_s (p := px_ck) px_q124 px_k125
theorem px_q126 : ∀ a, a < 127 → px_ck a := lt_s (p := px_ck) px_q125 px_k126
theorem px_q127 : ∀ a, a < 128 → px_ck a := lt_s (p := px_ck) px_q126 px_k127
theorem px_q128 : ∀ a, a < 129 → px_ck a := lt_s (p := px_ck) px_q127 px_k128
theorem px_q129 : ∀ a, a < 130 → px_ck a := lt_s (p := px_ck) px_q128 px_k129
theorem px_q130 : ∀ a, a < 131 → px_ck a := lt_s (p := px_ck) px_q129 px_k130
theorem px_q131 : ∀ a, a < 132 → px_ck a := lt_s (p := px_ck) px_q130 px_k131
theorem px_q132 : ∀ a, a < 133 → px_ck a := lt_s (p := px_ck) px_q131 px_k132
theorem px_q133 : ∀ a, a < 134 → px_ck a := lt_s (p := px_ck) px_q132 px_k133
theorem px_q134 : ∀ a, a < 135 → px_ck a := lt_s (p := px_ck) px_q133 px_k134
theorem px_q135 : ∀ a, a < 136 → px_ck a := lt_s (p := px_ck) px_q134 px_k135
theorem px_q136 : ∀ a, a < 137 → px_ck a := lt_s (p := px_ck) px_q135 px_k136
theorem px_q137 : ∀ a, a < 138 → px_ck a := lt_s (p := px_ck) px_q136 px_k137
theorem px_q138 : ∀ a, a < 139 → px_ck a := lt_s (p := px_ck) px_q137 px_k138
theorem px_q139 : ∀ a, a < 140 → px_ck a := lt_s (p := px_ck) px_q138 px_k139
theorem px_q140 : ∀ a, a < 141 → px_ck a := lt_s (p := px_ck) px_q139 px_k140
theorem px_q141 : ∀ a, a < 142 → px_ck a := lt_s (p := px_ck) px_q140 px_k141
theorem px_q142 : ∀ a, a < 143 → px_ck a := lt_s (p := px_ck) px_q141 px_k142
theorem px_q143 : ∀ a, a < 144 → px_ck a := lt_s (p := px_ck) px_q142 px_k143
theorem px_q144 : ∀ a, a < 145 → px_ck a := lt_s (p := px_ck) px_q143 px_k144
theorem px_q145 : ∀ a, a < 146 → px_ck a := lt_s (p := px_ck) px_q144 px_k145
theorem px_q146 : ∀ a, a < 147 → px_ck a := lt_s (p := px_ck) px_q145 px_k146
theorem px_q147 : ∀ a, a < 148 → px_ck a := lt_s (p := px_ck) px_q146 px_k147
theorem px_q148 : ∀ a, a < 149 → px_ck a := lt_s (p := px_ck) px_q147 px_k148
theorem px_q149 : ∀ a, a < 150 → px_ck a := lt_s (p := px_ck) px_q148 px_k149
theorem px_q150 : ∀ a, a < 151 → px_ck a := lt_s (p := px_ck) px_q149 px_k150
theorem px_q151 : ∀ a, a < 152 → px_ck a := lt_s (p := px_ck) px_q150 px_k151
theorem px_q152 : ∀ a, a < 153 → px_ck a := lt_s (p := px_ck) px_q151 px_k152
theorem px_q153 : ∀ a, a < 154 → px_ck a := lt_s (p := px_ck) px_q152 px_k153
theorem px_q154 : ∀ a, a < 155 → px_ck a := lt_s (p := px_ck) px_q153 px_k154
theorem px_q155 : ∀ a, a < 156 → px_ck a := lt_s (p := px_ck) px_q154 px_k155
theorem px_q156 : ∀ a, a < 157 → px_ck a := lt_s (p := px_ck) px_q155 px_k156
theorem px_q157 : ∀ a, a < 158 → px_ck a := lt_s (p := px_ck) px_q156 px_k157
theorem px_q158 : ∀ a, a < 159 → px_ck a := lt_s (p := px_ck) px_q157 px_k158
theorem px_q159 : ∀ a, a < 160 → px_ck a := lt_s (p := px_ck) px_q158 px_k159
theorem px_q160 : ∀ a, a < 161 → px_ck a := lt_s (p := px_ck) px_q159 px_k160
theorem px_q161 : ∀ a, a < 162 → px_ck a := lt_s (p := px_ck) px_q160 px_k161
theorem px_q162 : ∀ a, a < 163 → px_ck a := lt_s (p := px_ck) px_q161 px_k162
theorem px_q163 : ∀ a, a < 164 → px_ck a := lt_s (p := px_ck) px_q162 px_k163
theorem px_q164 : ∀ a, a < 165 → px_ck a := lt_s (p := px_ck) px_q163 px_k164
theorem px_q165 : ∀ a, a < 166 → px_ck a := lt_s (p := px_ck) px_q164 px_k165
theorem px_q166 : ∀ a, a < 167 → px_ck a := lt_s (p := px_ck) px_q165 px_k166
theorem px_q167 : ∀ a, a < 168 → px_ck a := lt_s (p := px_ck) px_q166 px_k167
theorem px_q168 : ∀ a, a < 169 → px_ck a := lt_s (p := px_ck) px_q167 px_k168
theorem px_q169 : ∀ a, a < 170 → px_ck a := lt_s (p := px_ck) px_q168 px_k169
theorem px_q170 : ∀ a, a < 171 → px_ck a := lt_s (p := px_ck) px_q169 px_k170
theorem px_q171 : ∀ a, a < 172 → px_ck a := lt_s (p := px_ck) px_q170 px_k171
theorem px_q172 : ∀ a, a < 173 → px_ck a := lt_s (p := px_ck) px_q171 px_k172
theorem px_q173 : ∀ a, a < 174 → px_ck a := lt_s (p := px_ck) px_q172 px_k173
theorem px_q174 : ∀ a, a < 175 → px_ck a := lt_s (p := px_ck) px_q173 px_k174
theorem px_q175 : ∀ a, a < 176 → px_ck a := lt_s (p := px_ck) px_q174 px_k175
theorem px_q176 : ∀ a, a < 177 → px_ck a := lt_s (p := px_ck) px_q175 px_k176
theorem px_q177 : ∀ a, a < 178 → px_ck a := lt_s (p := px_ck) px_q176 px_k177
theorem px_q178 : ∀ a, a < 179 → px_ck a := lt_s (p := px_ck) px_q177 px_k178
theorem px_q179 : ∀ a, a < 180 → px_ck a := lt_s (p := px_ck) px_q178 px_k179
theorem px_q180 : ∀ a, a < 181 → px_ck a := lt_s (p := px_ck) px_q179 px_k180
theorem px_q181 : ∀ a, a < 182 → px_ck a := lt_s (p := px_ck) px_q180 px_k181
theorem px_q182 : ∀ a, a < 183 → px_ck a := lt_s (p := px_ck) px_q181 px_k182
theorem px_q183 : ∀ a, a < 184 → px_ck a := lt_s (p := px_ck) px_q182 px_k183
theorem px_q184 : ∀ a, a < 185 → px_ck a := lt_s (p := px_ck) px_q183 px_k184
theorem px_q185 : ∀ a, a < 186 → px_ck a := lt_s (p := px_ck) px_q184 px_k185
theorem px_q186 : ∀ a, a < 187 → px_ck a := lt_s (p := px_ck) px_q185 px_k186
theorem px_q187 : ∀ a, a < 188 → px_ck a := lt_s (p := px_ck) px_q186 px_k187
theorem px_q188 : ∀ a, a < 189 → px_ck a := lt_s (p := px_ck) px_q187 px_k188
theorem px_q189 : ∀ a, a < 190 → px_ck a := lt_s (p := px_ck) px_q188 px_k189
theorem px_q190 : ∀ a, a < 191 → px_ck a := lt_s (p := px_ck) px_q189 px_k190
theorem px_q191 : ∀ a, a < 192 → px_ck a := lt_s (p := px_ck) px_q190 px_k191
theorem px_q192 : ∀ a, a < 193 → px_ck a := lt_s (p := px_ck) px_q191 px_k192
theorem px_q193 : ∀ a, a < 194 → px_ck a := lt_s (p := px_ck) px_q192 px_k193
theorem px_q194 : ∀ a, a < 195 → px_ck a := lt_s (p := px_ck) px_q193 px_k194
theorem px_q195 : ∀ a, a < 196 → px_ck a := lt_s (p := px_ck) px_q194 px_k195
theorem px_q196 : ∀ a, a < 197 → px_ck a := lt_s (p := px_ck) px_q195 px_k196
theorem px_q197 : ∀ a, a < 198 → px_ck a := lt_s (p := px_ck) px_q196 px_k197
theorem px_q198 : ∀ a, a < 199 → px_ck a := lt_s (p := px_ck) px_q197 px_k198
theorem px_q199 : ∀ a, a < 200 → px_ck a := lt_s (p := px_ck) px_q198 px_k199
theorem px_q200 : ∀ a, a < 201 → px_ck a := lt_s (p := px_ck) px_q199 px_k200
theorem px_q201 : ∀ a, a < 202 → px_ck a := lt_s (p := px_ck) px_q200 px_k201
theorem px_q202 : ∀ a, a < 203 → px_ck a := lt_s (p := px_ck) px_q201 px_k202
theorem px_q203 : ∀ a, a < 204 → px_ck a := lt_s (p := px_ck) px_q202 px_k203
theorem px_q204 : ∀ a, a < 205 → px_ck a := lt_s (p := px_ck) px_q203 px_k204
theorem px_q205 : ∀ a, a < 206 → px_ck a := lt_s (p := px_ck) px_q204 px_k205
theorem px_q206 : ∀ a, a < 207 → px_ck a := lt_s (p := px_ck) px_q205 px_k206
theorem px_q207 : ∀ a, a < 208 → px_ck a := lt_s (p := px_ck) px_q206 px_k207
theorem px_q208 : ∀ a, a < 209 → px_ck a := lt_s (p := px_ck) px_q207 px_k208
theorem px_q209 : ∀ a, a < 210 → px_ck a := lt_s (p := px_ck) px_q208 px_k209
theorem px_q210 : ∀ a, a < 211 → px_ck a := lt_s (p := px_ck) px_q209 px_k210
theorem px_q211 : ∀ a, a < 212 → px_ck a := lt_s (p := px_ck) px_q210 px_k211
theorem px_q212 : ∀ a, a < 213 → px_ck a := lt_s (p := px_ck) px_q211 px_k212
theorem px_q213 : ∀ a, a < 214 → px_ck a := lt_s (p := px_ck) px_q212 px_k213
theorem px_q214 : ∀ a, a < 215 → px_ck a := lt_s (p := px_ck) px_q213 px_k214
theorem px_q215 : ∀ a, a < 216 → px_ck a := lt_s (p := px_ck) px_q214 px_k215
theorem px_q216 : ∀ a, a < 217 → px_ck a := lt_s (p := px_ck) px_q215 px_k216
theorem px_q217 : ∀ a, a < 218 → px_ck a := lt_s (p := px_ck) px_q216 px_k217
theorem px_q218 : ∀ a, a < 219 → px_ck a := lt_s (p := px_ck) px_q217 px_k218
theorem px_q219 : ∀ a, a < 220 → px_ck a := lt_s (p := px_ck) px_q218 px_k219
theorem px_q220 : ∀ a, a < 221 → px_ck a := lt_s (p := px_ck) px_q219 px_k220
theorem px_q221 : ∀ a, a < 222 → px_ck a := lt_s (p := px_ck) px_q220 px_k221
theorem px_q222 : ∀ a, a < 223 → px_ck a := lt_s (p := px_ck) px_q221 px_k222
theorem px_q223 : ∀ a, a < 224 → px_ck a := lt_s (p := px_ck) px_q222 px_k223
theorem px_q224 : ∀ a, a < 225 → px_ck a := lt_s (p := px_ck) px_q223 px_k224
theorem px_q225 : ∀ a, a < 226 → px_ck a := lt_s (p := px_ck) px_q224 px_k225
theorem px_q226 : ∀ a, a < 227 → px_ck a := lt_s (p := px_ck) px_q225 px_k226
theorem px_q227 : ∀ a, a < 228 → px_ck a := lt_s (p := px_ck) px_q226 px_k227
theorem px_q228 : ∀ a, a < 229 → px_ck a := lt_s (p := px_ck) px_q227 px_k228
theorem px_q229 : ∀ a, a < 230 → px_ck a := lt_s (p := px_ck) px_q228 px_k229
theorem px_q230 : ∀ a, a < 231 → px_ck a := lt_s (p := px_ck) px_q229 px_k230
theorem px_q231 : ∀ a, a < 232 → px_ck a := lt_s (p := px_ck) px_q230 px_k231
theorem px_q232 : ∀ a, a < 233 → px_ck a := lt_s (p := px_ck) px_q231 px_k232
theorem px_q233 : ∀ a, a < 234 → px_ck a := lt_s (p := px_ck) px_q232 px_k233
theorem px_q234 : ∀ a, a < 235 → px_ck a := lt_s (p := px_ck) px_q233 px_k234
theorem px_q235 : ∀ a, a < 236 → px_ck a := lt_s (p := px_ck) px_q234 px_k235
theorem px_q236 : ∀ a, a < 237 → px_ck a := lt_s (p := px_ck) px_q235 px_k236
theorem px_q237 : ∀ a, a < 238 → px_ck a := lt_s (p := px_ck) px_q236 px_k237
theorem px_code {m : Nat} (h1 : 1 ≤ m) (h2 : m < px_nm) : Cond.code (px_y m) (px_bc m) (px_nl m) (px_rt m) ∈ px_B := by
  rcases px_q237 m h2 with h | h
  · omega
  · refine List.mem_filter.mpr ⟨List.mem_of_getElem? h, ?_⟩
    have := px_mall h2
    unfold px_mok at this
    simp only [Bool.and_eq_true] at this
    exact this.2
