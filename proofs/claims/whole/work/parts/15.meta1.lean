/-! THE METHODS BY THEIR NUMBERS, written by wip/whole/gen_meta.py -/
def am_ops (y : Nat) : Nat → Option am_O := bif Nat.ble y 105 then bif Nat.ble y 52 then bif Nat.ble y 25 then bif Nat.ble y 12 then bif Nat.ble y 5 then bif Nat.ble y 2 then bif Nat.ble y 0 then am_o0 else bif Nat.ble y 1 then am_o1 else am_o2 else bif Nat.ble y 3 then am_o3 else bif Nat.ble y 4 then am_o4 else am_o5 else bif Nat.ble y 8 then bif Nat.ble y 6 then am_o6 else bif Nat.ble y 7 then am_o7 else am_o8 else bif Nat.ble y 10 then bif Nat.ble y 9 then am_o9 else am_o10 else bif Nat.ble y 11 then am_o11 else am_o12 else bif Nat.ble y 18 then bif Nat.ble y 15 then bif Nat.ble y 13 then am_o13 else bif Nat.ble y 14 then am_o14 else am_o15 else bif Nat.ble y 16 then am_o16 else bif Nat.ble y 17 then am_o17 else am_o18 else bif Nat.ble y 21 then bif Nat.ble y 19 then am_o19 else bif Nat.ble y 20 then am_o20 else am_o21 else bif Nat.ble y 23 then bif Nat.ble y 22 then am_o22 else am_o23 else bif Nat.ble y 24 then am_o24 else am_o25 else bif Nat.ble y 38 then bif Nat.ble y 31 then bif Nat.ble y 28 then bif Nat.ble y 26 then am_o26 else bif Nat.ble y 27 then am_o27 else am_o28 else bif Nat.ble y 29 then am_o29 else bif Nat.ble y 30 then am_o30 else am_o31 else bif Nat.ble y 34 then bif Nat.ble y 32 then am_o32 else bif Nat.ble y 33 then am_o33 else am_o34 else bif Nat.ble y 36 then bif Nat.ble y 35 then am_o35 else am_o36 else bif Nat.ble y 37 then am_o37 else am_o38 else bif Nat.ble y 45 then bif Nat.ble y 41 then bif Nat.ble y 39 then am_o39 else bif Nat.ble y 40 then am_o40 else am_o41 else bif Nat.ble y 43 then bif Nat.ble y 42 then am_o42 else am_o43 else bif Nat.ble y 44 then am_o44 else am_o45 else bif Nat.ble y 48 then bif Nat.ble y 46 then am_o46 else bif Nat.ble y 47 then am_o47 else am_o48 else bif Nat.ble y 50 then bif Nat.ble y 49 then am_o49 else am_o50 else bif Nat.ble y 51 then am_o51 else am_o52 else bif Nat.ble y 78 then bif Nat.ble y 65 then bif Nat.ble y 58 then bif Nat.ble y 55 then bif Nat.ble y 53 then am_o53 else bif Nat.ble y 54 then am_o54 else am_o55 else bif Nat.ble y 56 then am_o56 else bif Nat.ble y 57 then am_o57 else am_o58 else bif Nat.ble y 61 then bif Nat.ble y 59 then am_o59 else bif Nat.ble y 60 then am_o60 else am_o61 else bif Nat.ble y 63 then bif Nat.ble y 62 then am_o62 else am_o63 else bif Nat.ble y 64 then am_o64 else am_o65 else bif Nat.ble y 71 then bif Nat.ble y 68 then bif Nat.ble y 66 then am_o66 else bif Nat.ble y 67 then am_o67 else am_o68 else bif Nat.ble y 69 then am_o69 else bif Nat.ble y 70 then am_o70 else am_o71 else bif Nat.ble y 74 then bif Nat.ble y 72 then am_o72 else bif Nat.ble y 73 then am_o73 else am_o74 else bif Nat.ble y 76 then bif Nat.ble y 75 then am_o75 else am_o76 else bif Nat.ble y 77 then am_o77 else am_o78 else bif Nat.ble y 91 then bif Nat.ble y 84 then bif Nat.ble y 81 then bif Nat.ble y 79 then am_o79 else bif Nat.ble y 80 then am_o80 else am_o81 else bif Nat.ble y 82 then am_o82 else bif Nat.ble y 83 then am_o83 else am_o84 else bif Nat.ble y 87 then bif Nat.ble y 85 then am_o85 else bif Nat.ble y 86 then am_o86 else am_o87 else bif Nat.ble y 89 then bif Nat.ble y 88 then am_o88 else am_o89 else bif Nat.ble y 90 then am_o90 else am_o91 else bif Nat.ble y 98 then bif Nat.ble y 94 then bif Nat.ble y 92 then am_o92 else bif Nat.ble y 93 then am_o93 else am_o94 else bif Nat.ble y 96 then bif Nat.ble y 95 then am_o95 else am_o96 else bif Nat.ble y 97 then am_o97 else am_o98 else bif Nat.ble y 101 then bif Nat.ble y 99 then am_o99 else bif Nat.ble y 100 then am_o100 else am_o101 else bif Nat.ble y 103 then bif Nat.ble y 102 then am_o102 else am_o103 else bif Nat.ble y 104 then am_o104 else am_o105 else bif Nat.ble y 158 then bif Nat.ble y 131 then bif Nat.ble y 118 then bif Nat.ble y 111 then bif Nat.ble y 108 then bif Nat.ble y 106 then am_o106 else bif Nat.ble y 107 then am_o107 else am_o108 else bif Nat.ble y 109 then am_o109 else bif Nat.ble y 110 then am_o110 else am_o111 else bif Nat.ble y 114 then bif Nat.ble y 112 then am_o112 else bif Nat.ble y 113 then am_o113 else am_o114 else bif Nat.ble y 116 then bif Nat.ble y 115 then am_o115 else am_o116 else bif Nat.ble y 117 then am_o117 else am_o118 else bif Nat.ble y 124 then bif Nat.ble y 121 then bif Nat.ble y 119 then am_o119 else bif Nat.ble y 120 then am_o120 else am_o121 else bif Nat.ble y 122 then am_o122 else bif Nat.ble y 123 then am_o123 else am_o124 else bif Nat.ble y 127 then bif Nat.ble y 125 then am_o125 else bif Nat.ble y 126 then am_o126 else am_o127 else bif Nat.ble y 129 then bif Nat.ble y 128 then am_o128 else am_o129 else bif Nat.ble y 130 then am_o130 else am_o131 else bif Nat.ble y 144 then bif Nat.ble y 137 then bif Nat.ble y 134 then bif Nat.ble y 132 then am_o132 else bif Nat.ble y 133 then am_o133 else am_o134 else bif Nat.ble y 135 then am_o135 else bif Nat.ble y 136 then am_o136 else am_o137 else bif Nat.ble y 140 then bif Nat.ble y 138 then am_o138 else bif Nat.ble y 139 then am_o139 else am_o140 else bif Nat.ble y 142 then bif Nat.ble y 141 then am_o141 else am_o142 else bif Nat.ble y 143 then am_o143 else am_o144 else bif Nat.ble y 151 then bif Nat.ble y 147 then bif Nat.ble y 145 then am_o145 else bif Nat.ble y 146 then am_o146 else am_o147 else bif Nat.ble y 149 then bif Nat.ble y 148 then am_o148 else am_o149 else bif Nat.ble y 150 then am_o150 else am_o151 else bif Nat.ble y 154 then bif Nat.ble y 152 then am_o152 else bif Nat.ble y 153 then am_o153 else am_o154 else bif Nat.ble y 156 then bif Nat.ble y 155 then am_o155 else am_o156 else bif Nat.ble y 157 then am_o157 else am_o158 else bif Nat.ble y 185 then bif Nat.ble y 171 then bif Nat.ble y 164 then bif Nat.ble y 161 then bif Nat.ble y 159 then am_o159 else bif Nat.ble y 160 then am_o160 else am_o161 else bif Nat.ble y 162 then am_o162 else bif Nat.ble y 163 then am_o163 else am_o164 else bif Nat.ble y 167 then bif Nat.ble y 165 then am_o165 else bif Nat.ble y 166 then am_o166 else am_o167 else bif Nat.ble y 169 then bif Nat.ble y 168 then am_o168 else am_o169 else bif Nat.ble y 170 then am_o170 else am_o171 else bif Nat.ble y 178 then bif Nat.ble y 174 then bif Nat.ble y 172 then am_o172 else bif Nat.ble y 173 then am_o173 else am_o174 else bif Nat.ble y 176 then bif Nat.ble y 175 then am_o175 else am_o176 else bif Nat.ble y 177 then am_o177 else am_o178 else bif Nat.ble y 181 then bif Nat.ble y 179 then am_o179 else bif Nat.ble y 180 then am_o180 else am_o181 else bif Nat.ble y 183 then bif Nat.ble y 182 then am_o182 else am_o183 else bif Nat.ble y 184 then am_o184 else am_o185 else bif Nat.ble y 198 then bif Nat.ble y 191 then bif Nat.ble y 188 then bif Nat.ble y 186 then am_o186 else bif Nat.ble y 187 then am_o187 else am_o188 else bif Nat.ble y 189 then am_o189 else bif Nat.ble y 190 then am_o190 else am_o191 else bif Nat.ble y 194 then bif Nat.ble y 192 then am_o192 else bif Nat.ble y 193 then am_o193 else am_o194 else bif Nat.ble y 196 then bif Nat.ble y 195 then am_o195 else am_o196 else bif Nat.ble y 197 then am_o197 else am_o198 else bif Nat.ble y 205 then bif Nat.ble y 201 then bif Nat.ble y 199 then am_o199 else bif Nat.ble y 200 then am_o200 else am_o201 else bif Nat.ble y 203 then bif Nat.ble y 202 then am_o202 else am_o203 else bif Nat.ble y 204 then am_o204 else am_o205 else bif Nat.ble y 208 then bif Nat.ble y 206 then am_o206 else bif Nat.ble y 207 then am_o207 else am_o208 else bif Nat.ble y 210 then bif Nat.ble y 209 then am_o209 else am_o210 else bif Nat.ble y 211 then am_o211 else am_o212
def am_in (y : Nat) : Bool := bif Nat.ble y 105 then bif Nat.ble y 52 then bif Nat.ble y 25 then bif Nat.ble y 12 then bif Nat.ble y 5 then bif Nat.ble y 2 then bif Nat.ble y 0 then false else bif Nat.ble y 1 then false else false else bif Nat.ble y 3 then false else bif Nat.ble y 4 then false else false else bif Nat.ble y 8 then bif Nat.ble y 6 then false else bif Nat.ble y 7 then true else false else bif Nat.ble y 10 then bif Nat.ble y 9 then false else false else bif Nat.ble y 11 then false else false else bif Nat.ble y 18 then bif Nat.ble y 15 then bif Nat.ble y 13 then false else bif Nat.ble y 14 then false else false else bif Nat.ble y 16 then true else bif Nat.ble y 17 then false else false else bif Nat.ble y 21 then bif Nat.ble y 19 then false else bif Nat.ble y 20 then false else false else bif Nat.ble y 23 then bif Nat.ble y 22 then false else false else bif Nat.ble y 24 then true else false else bif Nat.ble y 38 then bif Nat.ble y 31 then bif Nat.ble y 28 then bif Nat.ble y 26 then false else bif Nat.ble y 27 then false else false else bif Nat.ble y 29 then false else bif Nat.ble y 30 then false else false else bif Nat.ble y 34 then bif Nat.ble y 32 then false else bif Nat.ble y 33 then true else false else bif Nat.ble y 36 then bif Nat.ble y 35 then false else false else bif Nat.ble y 37 then false else false else bif Nat.ble y 45 then bif Nat.ble y 41 then bif Nat.ble y 39 then false else bif Nat.ble y 40 then false else false else bif Nat.ble y 43 then bif Nat.ble y 42 then true else false else bif Nat.ble y 44 then false else false else bif Nat.ble y 48 then bif Nat.ble y 46 then false else bif Nat.ble y 47 then false else false else bif Nat.ble y 50 then bif Nat.ble y 49 then false else false else bif Nat.ble y 51 then false else false else bif Nat.ble y 78 then bif Nat.ble y 65 then bif Nat.ble y 58 then bif Nat.ble y 55 then bif Nat.ble y 53 then true else bif Nat.ble y 54 then false else false else bif Nat.ble y 56 then false else bif Nat.ble y 57 then false else false else bif Nat.ble y 61 then bif Nat.ble y 59 then false else bif Nat.ble y 60 then false else false else bif Nat.ble y 63 then bif Nat.ble y 62 then true else false else bif Nat.ble y 64 then false else false else bif Nat.ble y 71 then bif Nat.ble y 68 then bif Nat.ble y 66 then false else bif Nat.ble y 67 then true else false else bif Nat.ble y 69 then false else bif Nat.ble y 70 then false else false else bif Nat.ble y 74 then bif Nat.ble y 72 then false else bif Nat.ble y 73 then false else false else bif Nat.ble y 76 then bif Nat.ble y 75 then true else false else bif Nat.ble y 77 then false else false else bif Nat.ble y 91 then bif Nat.ble y 84 then bif Nat.ble y 81 then bif Nat.ble y 79 then false else bif Nat.ble y 80 then false else false else bif Nat.ble y 82 then false else bif Nat.ble y 83 then false else false else bif Nat.ble y 87 then bif Nat.ble y 85 then false else bif Nat.ble y 86 then false else false else bif Nat.ble y 89 then bif Nat.ble y 88 then false else false else bif Nat.ble y 90 then false else true else bif Nat.ble y 98 then bif Nat.ble y 94 then bif Nat.ble y 92 then false else bif Nat.ble y 93 then false else false else bif Nat.ble y 96 then bif Nat.ble y 95 then false else false else bif Nat.ble y 97 then false else false else bif Nat.ble y 101 then bif Nat.ble y 99 then false else bif Nat.ble y 100 then false else false else bif Nat.ble y 103 then bif Nat.ble y 102 then true else false else bif Nat.ble y 104 then false else false else bif Nat.ble y 158 then bif Nat.ble y 131 then bif Nat.ble y 118 then bif Nat.ble y 111 then bif Nat.ble y 108 then bif Nat.ble y 106 then false else bif Nat.ble y 107 then false else false else bif Nat.ble y 109 then false else bif Nat.ble y 110 then false else false else bif Nat.ble y 114 then bif Nat.ble y 112 then false else bif Nat.ble y 113 then false else false else bif Nat.ble y 116 then bif Nat.ble y 115 then false else false else bif Nat.ble y 117 then false else false else bif Nat.ble y 124 then bif Nat.ble y 121 then bif Nat.ble y 119 then false else bif Nat.ble y 120 then false else true else bif Nat.ble y 122 then false else bif Nat.ble y 123 then false else false else bif Nat.ble y 127 then bif Nat.ble y 125 then false else bif Nat.ble y 126 then false else false else bif Nat.ble y 129 then bif Nat.ble y 128 then false else false else bif Nat.ble y 130 then false else false else bif Nat.ble y 144 then bif Nat.ble y 137 then bif Nat.ble y 134 then bif Nat.ble y 132 then false else bif Nat.ble y 133 then false else false else bif Nat.ble y 135 then false else bif Nat.ble y 136 then false else false else bif Nat.ble y 140 then bif Nat.ble y 138 then false else bif Nat.ble y 139 then false else false else bif Nat.ble y 142 then bif Nat.ble y 141 then false else false else bif Nat.ble y 143 then false else false else bif Nat.ble y 151 then bif Nat.ble y 147 then bif Nat.ble y 145 then false else bif Nat.ble y 146 then false else false else bif Nat.ble y 149 then bif Nat.ble y 148 then false else false else bif Nat.ble y 150 then false else false else bif Nat.ble y 154 then bif Nat.ble y 152 then false else bif Nat.ble y 153 then false else false else bif Nat.ble y 156 then bif Nat.ble y 155 then false else false else bif Nat.ble y 157 then false else false else bif Nat.ble y 185 then bif Nat.ble y 171 then bif Nat.ble y 164 then bif Nat.ble y 161 then bif Nat.ble y 159 then false else bif Nat.ble y 160 then false else false else bif Nat.ble y 162 then false else bif Nat.ble y 163 then false else false else bif Nat.ble y 167 then bif Nat.ble y 165 then false else bif Nat.ble y 166 then false else false else bif Nat.ble y 169 then bif Nat.ble y 168 then false else false else bif Nat.ble y 170 then false else false else bif Nat.ble y 178 then bif Nat.ble y 174 then bif Nat.ble y 172 then false else bif Nat.ble y 173 then false else false else bif Nat.ble y 176 then bif Nat.ble y 175 then false else false else bif Nat.ble y 177 then false else false else bif Nat.ble y 181 then bif Nat.ble y 179 then false else bif Nat.ble y 180 then false else false else bif Nat.ble y 183 then bif Nat.ble y 182 then false else false else bif Nat.ble y 184 then false else false else bif Nat.ble y 198 then bif Nat.ble y 191 then bif Nat.ble y 188 then bif Nat.ble y 186 then false else bif Nat.ble y 187 then false else false else bif Nat.ble y 189 then false else bif Nat.ble y 190 then false else false else bif Nat.ble y 194 then bif Nat.ble y 192 then false else bif Nat.ble y 193 then false else false else bif Nat.ble y 196 then bif Nat.ble y 195 then false else false else bif Nat.ble y 197 then false else false else bif Nat.ble y 205 then bif Nat.ble y 201 then bif Nat.ble y 199 then false else bif Nat.ble y 200 then false else false else bif Nat.ble y 203 then bif Nat.ble y 202 then false else false else bif Nat.ble y 204 then false else false else bif Nat.ble y 208 then bif Nat.ble y 206 then false else bif Nat.ble y 207 then false else false else bif Nat.ble y 210 then bif Nat.ble y 209 then false else false else bif Nat.ble y 211 then false else false
def am_np (y : Nat) : Nat := bif Nat.ble y 105 then bif Nat.ble y 52 then bif Nat.ble y 25 then bif Nat.ble y 12 then bif Nat.ble y 5 then bif Nat.ble y 2 then bif Nat.ble y 0 then 1 else bif Nat.ble y 1 then 2 else 3 else bif Nat.ble y 3 then 1 else bif Nat.ble y 4 then 0 else 1 else bif Nat.ble y 8 then bif Nat.ble y 6 then 1 else bif Nat.ble y 7 then 0 else 5 else bif Nat.ble y 10 then bif Nat.ble y 9 then 2 else 1 else bif Nat.ble y 11 then 0 else 0 else bif Nat.ble y 18 then bif Nat.ble y 15 then bif Nat.ble y 13 then 0 else bif Nat.ble y 14 then 0 else 1 else bif Nat.ble y 16 then 2 else bif Nat.ble y 17 then 0 else 0 else bif Nat.ble y 21 then bif Nat.ble y 19 then 0 else bif Nat.ble y 20 then 2 else 0 else bif Nat.ble y 23 then bif Nat.ble y 22 then 2 else 2 else bif Nat.ble y 24 then 5 else 0 else bif Nat.ble y 38 then bif Nat.ble y 31 then bif Nat.ble y 28 then bif Nat.ble y 26 then 1 else bif Nat.ble y 27 then 2 else 0 else bif Nat.ble y 29 then 1 else bif Nat.ble y 30 then 1 else 2 else bif Nat.ble y 34 then bif Nat.ble y 32 then 1 else bif Nat.ble y 33 then 0 else 1 else bif Nat.ble y 36 then bif Nat.ble y 35 then 2 else 3 else bif Nat.ble y 37 then 6 else 2 else bif Nat.ble y 45 then bif Nat.ble y 41 then bif Nat.ble y 39 then 2 else bif Nat.ble y 40 then 3 else 1 else bif Nat.ble y 43 then bif Nat.ble y 42 then 3 else 0 else bif Nat.ble y 44 then 0 else 1 else bif Nat.ble y 48 then bif Nat.ble y 46 then 0 else bif Nat.ble y 47 then 1 else 3 else bif Nat.ble y 50 then bif Nat.ble y 49 then 2 else 2 else bif Nat.ble y 51 then 1 else 2 else bif Nat.ble y 78 then bif Nat.ble y 65 then bif Nat.ble y 58 then bif Nat.ble y 55 then bif Nat.ble y 53 then 5 else bif Nat.ble y 54 then 0 else 0 else bif Nat.ble y 56 then 1 else bif Nat.ble y 57 then 1 else 1 else bif Nat.ble y 61 then bif Nat.ble y 59 then 2 else bif Nat.ble y 60 then 1 else 1 else bif Nat.ble y 63 then bif Nat.ble y 62 then 1 else 1 else bif Nat.ble y 64 then 3 else 1 else bif Nat.ble y 71 then bif Nat.ble y 68 then bif Nat.ble y 66 then 3 else bif Nat.ble y 67 then 1 else 0 else bif Nat.ble y 69 then 1 else bif Nat.ble y 70 then 2 else 1 else bif Nat.ble y 74 then bif Nat.ble y 72 then 1 else bif Nat.ble y 73 then 2 else 2 else bif Nat.ble y 76 then bif Nat.ble y 75 then 2 else 0 else bif Nat.ble y 77 then 1 else 2 else bif Nat.ble y 91 then bif Nat.ble y 84 then bif Nat.ble y 81 then bif Nat.ble y 79 then 2 else bif Nat.ble y 80 then 1 else 1 else bif Nat.ble y 82 then 2 else bif Nat.ble y 83 then 2 else 1 else bif Nat.ble y 87 then bif Nat.ble y 85 then 1 else bif Nat.ble y 86 then 1 else 1 else bif Nat.ble y 89 then bif Nat.ble y 88 then 1 else 1 else bif Nat.ble y 90 then 2 else 1 else bif Nat.ble y 98 then bif Nat.ble y 94 then bif Nat.ble y 92 then 1 else bif Nat.ble y 93 then 1 else 1 else bif Nat.ble y 96 then bif Nat.ble y 95 then 1 else 1 else bif Nat.ble y 97 then 2 else 2 else bif Nat.ble y 101 then bif Nat.ble y 99 then 1 else bif Nat.ble y 100 then 1 else 1 else bif Nat.ble y 103 then bif Nat.ble y 102 then 1 else 1 else bif Nat.ble y 104 then 0 else 2 else bif Nat.ble y 158 then bif Nat.ble y 131 then bif Nat.ble y 118 then bif Nat.ble y 111 then bif Nat.ble y 108 then bif Nat.ble y 106 then 1 else bif Nat.ble y 107 then 1 else 1 else bif Nat.ble y 109 then 2 else bif Nat.ble y 110 then 3 else 1 else bif Nat.ble y 114 then bif Nat.ble y 112 then 1 else bif Nat.ble y 113 then 1 else 1 else bif Nat.ble y 116 then bif Nat.ble y 115 then 2 else 1 else bif Nat.ble y 117 then 1 else 1 else bif Nat.ble y 124 then bif Nat.ble y 121 then bif Nat.ble y 119 then 1 else bif Nat.ble y 120 then 2 else 0 else bif Nat.ble y 122 then 1 else bif Nat.ble y 123 then 2 else 0 else bif Nat.ble y 127 then bif Nat.ble y 125 then 2 else bif Nat.ble y 126 then 2 else 2 else bif Nat.ble y 129 then bif Nat.ble y 128 then 2 else 0 else bif Nat.ble y 130 then 1 else 2 else bif Nat.ble y 144 then bif Nat.ble y 137 then bif Nat.ble y 134 then bif Nat.ble y 132 then 0 else bif Nat.ble y 133 then 2 else 1 else bif Nat.ble y 135 then 1 else bif Nat.ble y 136 then 4 else 1 else bif Nat.ble y 140 then bif Nat.ble y 138 then 0 else bif Nat.ble y 139 then 2 else 1 else bif Nat.ble y 142 then bif Nat.ble y 141 then 1 else 1 else bif Nat.ble y 143 then 1 else 1 else bif Nat.ble y 151 then bif Nat.ble y 147 then bif Nat.ble y 145 then 1 else bif Nat.ble y 146 then 1 else 1 else bif Nat.ble y 149 then bif Nat.ble y 148 then 2 else 1 else bif Nat.ble y 150 then 2 else 3 else bif Nat.ble y 154 then bif Nat.ble y 152 then 0 else bif Nat.ble y 153 then 5 else 1 else bif Nat.ble y 156 then bif Nat.ble y 155 then 1 else 0 else bif Nat.ble y 157 then 0 else 0 else bif Nat.ble y 185 then bif Nat.ble y 171 then bif Nat.ble y 164 then bif Nat.ble y 161 then bif Nat.ble y 159 then 0 else bif Nat.ble y 160 then 1 else 1 else bif Nat.ble y 162 then 2 else bif Nat.ble y 163 then 3 else 1 else bif Nat.ble y 167 then bif Nat.ble y 165 then 1 else bif Nat.ble y 166 then 2 else 2 else bif Nat.ble y 169 then bif Nat.ble y 168 then 1 else 3 else bif Nat.ble y 170 then 1 else 1 else bif Nat.ble y 178 then bif Nat.ble y 174 then bif Nat.ble y 172 then 1 else bif Nat.ble y 173 then 1 else 1 else bif Nat.ble y 176 then bif Nat.ble y 175 then 1 else 1 else bif Nat.ble y 177 then 1 else 0 else bif Nat.ble y 181 then bif Nat.ble y 179 then 1 else bif Nat.ble y 180 then 1 else 1 else bif Nat.ble y 183 then bif Nat.ble y 182 then 1 else 1 else bif Nat.ble y 184 then 0 else 0 else bif Nat.ble y 198 then bif Nat.ble y 191 then bif Nat.ble y 188 then bif Nat.ble y 186 then 2 else bif Nat.ble y 187 then 0 else 0 else bif Nat.ble y 189 then 1 else bif Nat.ble y 190 then 1 else 1 else bif Nat.ble y 194 then bif Nat.ble y 192 then 1 else bif Nat.ble y 193 then 2 else 1 else bif Nat.ble y 196 then bif Nat.ble y 195 then 1 else 1 else bif Nat.ble y 197 then 1 else 1 else bif Nat.ble y 205 then bif Nat.ble y 201 then bif Nat.ble y 199 then 1 else bif Nat.ble y 200 then 1 else 1 else bif Nat.ble y 203 then bif Nat.ble y 202 then 2 else 2 else bif Nat.ble y 204 then 3 else 2 else bif Nat.ble y 208 then bif Nat.ble y 206 then 2 else bif Nat.ble y 207 then 2 else 2 else bif Nat.ble y 210 then bif Nat.ble y 209 then 4 else 2 else bif Nat.ble y 211 then 3 else 3
/-- a method with no handlers -/
def am_isM (y : Nat) : Bool := Nat.ble y 212 && !(Nat.beq y 0) && !(Nat.beq y 202) && !(Nat.beq y 203) && !(Nat.beq y 204) && !(Nat.beq y 205) && !(Nat.beq y 206) && !(Nat.beq y 207)
set_option maxHeartbeats 4000000 in
set_option maxRecDepth 100000 in
theorem am_ops_ok (y : Nat) (hy : y ≤ 212) : ∀ pc o, am_ops y pc = some o → am_right (am_Mt y).1.cls (am_in y) (am_Mt y).2.1 pc o := by
  by_cases hc213 : y ≤ 105
  ·
    by_cases hc106 : y ≤ 52
    ·
      by_cases hc53 : y ≤ 25
      ·
        by_cases hc26 : y ≤ 12
        ·
          by_cases hc13 : y ≤ 5
          ·
            by_cases hc6 : y ≤ 2
            ·
              by_cases hc3 : y ≤ 0
              ·
                obtain rfl : y = 0 := (by omega)
                exact am_k0
              ·
                by_cases hc1003 : y ≤ 1
                ·
                  obtain rfl : y = 1 := (by omega)
                  exact am_k1
                ·
                  obtain rfl : y = 2 := (by omega)
                  exact am_k2
            ·
              by_cases hc3006 : y ≤ 3
              ·
                obtain rfl : y = 3 := (by omega)
                exact am_k3
              ·
                by_cases hc4006 : y ≤ 4
                ·
                  obtain rfl : y = 4 := (by omega)
                  exact am_k4
                ·
                  obtain rfl : y = 5 := (by omega)
                  exact am_k5
          ·
            by_cases hc6013 : y ≤ 8
            ·
              by_cases hc6009 : y ≤ 6
              ·
                obtain rfl : y = 6 := (by omega)
                exact am_k6
              ·
                by_cases hc7009 : y ≤ 7
                ·
                  obtain rfl : y = 7 := (by omega)
                  exact am_k7
                ·
                  obtain rfl : y = 8 := (by omega)
                  exact am_k8
            ·
              by_cases hc9013 : y ≤ 10
              ·
                by_cases hc9011 : y ≤ 9
                ·
                  obtain rfl : y = 9 := (by omega)
                  exact am_k9
                ·
                  obtain rfl : y = 10 := (by omega)
                  exact am_k10
              ·
                by_cases hc11013 : y ≤ 11
                ·
                  obtain rfl : y = 11 := (by omega)
                  exact am_k11
                ·
                  obtain rfl : y = 12 := (by omega)
                  exact am_k12
        ·
          by_cases hc13026 : y ≤ 18
          ·
            by_cases hc13019 : y ≤ 15
            ·
              by_cases hc13016 : y ≤ 13
              ·
                obtain rfl : y = 13 := (by omega)
                exact am_k13
              ·
                by_cases hc14016 : y ≤ 14
                ·
                  obtain rfl : y = 14 := (by omega)
                  exact am_k14
                ·
                  obtain rfl : y = 15 := (by omega)
                  exact am_k15
            ·
              by_cases hc16019 : y ≤ 16
              ·
                obtain rfl : y = 16 := (by omega)
                exact am_k16
              ·
                by_cases hc17019 : y ≤ 17
                ·
                  obtain rfl : y = 17 := (by omega)
                  exact am_k17
                ·
                  obtain rfl : y = 18 := (by omega)
                  exact am_k18
          ·
            by_cases hc19026 : y ≤ 21
            ·
              by_cases hc19022 : y ≤ 19
              ·
                obtain rfl : y = 19 := (by omega)
                exact am_k19
              ·
                by_cases hc20022 : y ≤ 20
                ·
                  obtain rfl : y = 20 := (by omega)
                  exact am_k20
                ·
                  obtain rfl : y = 21 := (by omega)
                  exact am_k21
            ·
              by_cases hc22026 : y ≤ 23
              ·
                by_cases hc22024 : y ≤ 22
                ·
                  obtain rfl : y = 22 := (by omega)
                  exact am_k22
                ·
                  obtain rfl : y = 23 := (by omega)
                  exact am_k23
              ·
                by_cases hc24026 : y ≤ 24
                ·
                  obtain rfl : y = 24 := (by omega)
                  exact am_k24
                ·
                  obtain rfl : y = 25 := (by omega)
                  exact am_k25
      ·
        by_cases hc26053 : y ≤ 38
        ·
          by_cases hc26039 : y ≤ 31
          ·
            by_cases hc26032 : y ≤ 28
            ·
              by_cases hc26029 : y ≤ 26
              ·
                obtain rfl : y = 26 := (by omega)
                exact am_k26
              ·
                by_cases hc27029 : y ≤ 27
                ·
                  obtain rfl : y = 27 := (by omega)
                  exact am_k27
                ·
                  obtain rfl : y = 28 := (by omega)
                  exact am_k28
            ·
              by_cases hc29032 : y ≤ 29
              ·
                obtain rfl : y = 29 := (by omega)
                exact am_k29
              ·
                by_cases hc30032 : y ≤ 30
                ·
                  obtain rfl : y = 30 := (by omega)
                  exact am_k30
                ·
                  obtain rfl : y = 31 := (by omega)
                  exact am_k31
          ·
            by_cases hc32039 : y ≤ 34
            ·
              by_cases hc32035 : y ≤ 32
              ·
                obtain rfl : y = 32 := (by omega)
                exact am_k32
              ·
                by_cases hc33035 : y ≤ 33
                ·
                  obtain rfl : y = 33 := (by omega)
                  exact am_k33
                ·
                  obtain rfl : y = 34 := (by omega)
                  exact am_k34
            ·
              by_cases hc35039 : y ≤ 36
              ·
                by_cases hc35037 : y ≤ 35
                ·
                  obtain rfl : y = 35 := (by omega)
                  exact am_k35
                ·
                  obtain rfl : y = 36 := (by omega)
                  exact am_k36
              ·
                by_cases hc37039 : y ≤ 37
                ·
                  obtain rfl : y = 37 := (by omega)
                  exact am_k37
                ·
                  obtain rfl : y = 38 := (by omega)
                  exact am_k38
        ·
          by_cases hc39053 : y ≤ 45
          ·
            by_cases hc39046 : y ≤ 41
            ·
              by_cases hc39042 : y ≤ 39
              ·
                obtain rfl : y = 39 := (by omega)
                exact am_k39
              ·
                by_cases hc40042 : y ≤ 40
                ·
                  obtain rfl : y = 40 := (by omega)
                  exact am_k40
                ·
                  obtain rfl : y = 41 := (by omega)
                  exact am_k41
            ·
              by_cases hc42046 : y ≤ 43
              ·
                by_cases hc42044 : y ≤ 42
                ·
                  obtain rfl : y = 42 := (by omega)
                  exact am_k42
                ·
                  obtain rfl : y = 43 := (by omega)
                  exact am_k43
              ·
                by_cases hc44046 : y ≤ 44
                ·
                  obtain rfl : y = 44 := (by omega)
                  exact am_k44
                ·
                  obtain rfl : y = 45 := (by omega)
                  exact am_k45
          ·
            by_cases hc46053 : y ≤ 48
            ·
              by_cases hc46049 : y ≤ 46
              ·
                obtain rfl : y = 46 := (by omega)
                exact am_k46
              ·
                by_cases hc47049 : y ≤ 47
                ·
                  obtain rfl : y = 47 := (by omega)
                  exact am_k47
                ·
                  obtain rfl : y = 48 := (by omega)
                  exact am_k48
            ·
              by_cases hc49053 : y ≤ 50
              ·
                by_cases hc49051 : y ≤ 49
                ·
                  obtain rfl : y = 49 := (by omega)
                  exact am_k49
                ·
                  obtain rfl : y = 50 := (by omega)
                  exact am_k50
              ·
                by_cases hc51053 : y ≤ 51
                ·
                  obtain rfl : y = 51 := (by omega)
                  exact am_k51
                ·
                  obtain rfl : y = 52 := (by omega)
                  exact am_k52
    ·
      by_cases hc53106 : y ≤ 78
      ·
        by_cases hc53079 : y ≤ 65
        ·
          by_cases hc53066 : y ≤ 58
          ·
            by_cases hc53059 : y ≤ 55
            ·
              by_cases hc53056 : y ≤ 53
              ·
                obtain rfl : y = 53 := (by omega)
                exact am_k53
              ·
                by_cases hc54056 : y ≤ 54
                ·
                  obtain rfl : y = 54 := (by omega)
                  exact am_k54
                ·
                  obtain rfl : y = 55 := (by omega)
                  exact am_k55
            ·
              by_cases hc56059 : y ≤ 56
              ·
                obtain rfl : y = 56 := (by omega)
                exact am_k56
              ·
                by_cases hc57059 : y ≤ 57
                ·
                  obtain rfl : y = 57 := (by omega)
                  exact am_k57
                ·
                  obtain rfl : y = 58 := (by omega)
                  exact am_k58
          ·
            by_cases hc59066 : y ≤ 61
            ·
              by_cases hc59062 : y ≤ 59
              ·
                obtain rfl : y = 59 := (by omega)
                exact am_k59
              ·
                by_cases hc60062 : y ≤ 60
                ·
                  obtain rfl : y = 60 := (by omega)
                  exact am_k60
                ·
                  obtain rfl : y = 61 := (by omega)
                  exact am_k61
            ·
              by_cases hc62066 : y ≤ 63
              ·
                by_cases hc62064 : y ≤ 62
                ·
                  obtain rfl : y = 62 := (by omega)
                  exact am_k62
                ·
                  obtain rfl : y = 63 := (by omega)
                  exact am_k63
              ·
                by_cases hc64066 : y ≤ 64
                ·
                  obtain rfl : y = 64 := (by omega)
                  exact am_k64
                ·
                  obtain rfl : y = 65 := (by omega)
                  exact am_k65
        ·
          by_cases hc66079 : y ≤ 71
          ·
            by_cases hc66072 : y ≤ 68
            ·
              by_cases hc66069 : y ≤ 66
              ·
                obtain rfl : y = 66 := (by omega)
                exact am_k66
              ·
                by_cases hc67069 : y ≤ 67
                ·
                  obtain rfl : y = 67 := (by omega)
                  exact am_k67
                ·
                  obtain rfl : y = 68 := (by omega)
                  exact am_k68
            ·
              by_cases hc69072 : y ≤ 69
              ·
                obtain rfl : y = 69 := (by omega)
                exact am_k69
              ·
                by_cases hc70072 : y ≤ 70
                ·
                  obtain rfl : y = 70 := (by omega)
                  exact am_k70
                ·
                  obtain rfl : y = 71 := (by omega)
                  exact am_k71
          ·
            by_cases hc72079 : y ≤ 74
            ·
              by_cases hc72075 : y ≤ 72
              ·
                obtain rfl : y = 72 := (by omega)
                exact am_k72
              ·
                by_cases hc73075 : y ≤ 73
                ·
                  obtain rfl : y = 73 := (by omega)
                  exact am_k73
                ·
                  obtain rfl : y = 74 := (by omega)
                  exact am_k74
            ·
              by_cases hc75079 : y ≤ 76
              ·
                by_cases hc75077 : y ≤ 75
                ·
                  obtain rfl : y = 75 := (by omega)
                  exact am_k75
                ·
                  obtain rfl : y = 76 := (by omega)
                  exact am_k76
              ·
                by_cases hc77079 : y ≤ 77
                ·
                  obtain rfl : y = 77 := (by omega)
                  exact am_k77
                ·
                  obtain rfl : y = 78 := (by omega)
                  exact am_k78
      ·
        by_cases hc79106 : y ≤ 91
        ·
          by_cases hc79092 : y ≤ 84
          ·
            by_cases hc79085 : y ≤ 81
            ·
              by_cases hc79082 : y ≤ 79
              ·
                obtain rfl : y = 79 := (by omega)
                exact am_k79
              ·
                by_cases hc80082 : y ≤ 80
                ·
                  obtain rfl : y = 80 := (by omega)
                  exact am_k80
                ·
                  obtain rfl : y = 81 := (by omega)
                  exact am_k81
            ·
              by_cases hc82085 : y ≤ 82
              ·
                obtain rfl : y = 82 := (by omega)
                exact am_k82
              ·
                by_cases hc83085 : y ≤ 83
                ·
                  obtain rfl : y = 83 := (by omega)
                  exact am_k83
                ·
                  obtain rfl : y = 84 := (by omega)
                  exact am_k84
          ·
            by_cases hc85092 : y ≤ 87
            ·
              by_cases hc85088 : y ≤ 85
              ·
                obtain rfl : y = 85 := (by omega)
                exact am_k85
              ·
                by_cases hc86088 : y ≤ 86
                ·
                  obtain rfl : y = 86 := (by omega)
                  exact am_k86
                ·
                  obtain rfl : y = 87 := (by omega)
                  exact am_k87
            ·
              by_cases hc88092 : y ≤ 89
              ·
                by_cases hc88090 : y ≤ 88
                ·
                  obtain rfl : y = 88 := (by omega)
                  exact am_k88
                ·
                  obtain rfl : y = 89 := (by omega)
                  exact am_k89
              ·
                by_cases hc90092 : y ≤ 90
                ·
                  obtain rfl : y = 90 := (by omega)
                  exact am_k90
                ·
                  obtain rfl : y = 91 := (by omega)
                  exact am_k91
        ·
          by_cases hc92106 : y ≤ 98
          ·
            by_cases hc92099 : y ≤ 94
            ·
              by_cases hc92095 : y ≤ 92
              ·
                obtain rfl : y = 92 := (by omega)
                exact am_k92
              ·
                by_cases hc93095 : y ≤ 93
                ·
                  obtain rfl : y = 93 := (by omega)
                  exact am_k93
                ·
                  obtain rfl : y = 94 := (by omega)
                  exact am_k94
            ·
              by_cases hc95099 : y ≤ 96
              ·
                by_cases hc95097 : y ≤ 95
                ·
                  obtain rfl : y = 95 := (by omega)
                  exact am_k95
                ·
                  obtain rfl : y = 96 := (by omega)
                  exact am_k96
              ·
                by_cases hc97099 : y ≤ 97
                ·
                  obtain rfl : y = 97 := (by omega)
                  exact am_k97
                ·
                  obtain rfl : y = 98 := (by omega)
                  exact am_k98
          ·
            by_cases hc99106 : y ≤ 101
            ·
              by_cases hc99102 : y ≤ 99
              ·
                obtain rfl : y = 99 := (by omega)
                exact am_k99
              ·
                by_cases hc100102 : y ≤ 100
                ·
                  obtain rfl : y = 100 := (by omega)
                  exact am_k100
                ·
                  obtain rfl : y = 101 := (by omega)
                  exact am_k101
            ·
              by_cases hc102106 : y ≤ 103
              ·
                by_cases hc102104 : y ≤ 102
                ·
                  obtain rfl : y = 102 := (by omega)
                  exact am_k102
                ·
                  obtain rfl : y = 103 := (by omega)
                  exact am_k103
              ·
                by_cases hc104106 : y ≤ 104
                ·
                  obtain rfl : y = 104 := (by omega)
                  exact am_k104
                ·
                  obtain rfl : y = 105 := (by omega)
                  exact am_k105
  ·
    by_cases hc106213 : y ≤ 158
    ·
      by_cases hc106159 : y ≤ 131
      ·
        by_cases hc106132 : y ≤ 118
        ·
          by_cases hc106119 : y ≤ 111
          ·
            by_cases hc106112 : y ≤ 108
            ·
              by_cases hc106109 : y ≤ 106
              ·
                obtain rfl : y = 106 := (by omega)
                exact am_k106
              ·
                by_cases hc107109 : y ≤ 107
                ·
                  obtain rfl : y = 107 := (by omega)
                  exact am_k107
                ·
                  obtain rfl : y = 108 := (by omega)
                  exact am_k108
            ·
              by_cases hc109112 : y ≤ 109
              ·
                obtain rfl : y = 109 := (by omega)
                exact am_k109
              ·
                by_cases hc110112 : y ≤ 110
                ·
                  obtain rfl : y = 110 := (by omega)
                  exact am_k110
                ·
                  obtain rfl : y = 111 := (by omega)
                  exact am_k111
          ·
            by_cases hc112119 : y ≤ 114
            ·
              by_cases hc112115 : y ≤ 112
              ·
                obtain rfl : y = 112 := (by omega)
                exact am_k112
              ·
                by_cases hc113115 : y ≤ 113
                ·
                  obtain rfl : y = 113 := (by omega)
                  exact am_k113
                ·
                  obtain rfl : y = 114 := (by omega)
                  exact am_k114
            ·
              by_cases hc115119 : y ≤ 116
              ·
                by_cases hc115117 : y ≤ 115
                ·
                  obtain rfl : y = 115 := (by omega)
                  exact am_k115
                ·
                  obtain rfl : y = 116 := (by omega)
                  exact am_k116
              ·
                by_cases hc117119 : y ≤ 117
                ·
                  obtain rfl : y = 117 := (by omega)
                  exact am_k117
                ·
                  obtain rfl : y = 118 := (by omega)
                  exact am_k118
        ·
          by_cases hc119132 : y ≤ 124
          ·
            by_cases hc119125 : y ≤ 121
            ·
              by_cases hc119122 : y ≤ 119
              ·
                obtain rfl : y = 119 := (by omega)
                exact am_k119
              ·
                by_cases hc120122 : y ≤ 120
                ·
                  obtain rfl : y = 120 := (by omega)
                  exact am_k120
                ·
                  obtain rfl : y = 121 := (by omega)
                  exact am_k121
            ·
              by_cases hc122125 : y ≤ 122
              ·
                obtain rfl : y = 122 := (by omega)
                exact am_k122
              ·
                by_cases hc123125 : y ≤ 123
                ·
                  obtain rfl : y = 123 := (by omega)
                  exact am_k123
                ·
                  obtain rfl : y = 124 := (by omega)
                  exact am_k124
          ·
            by_cases hc125132 : y ≤ 127
            ·
              by_cases hc125128 : y ≤ 125
              ·
                obtain rfl : y = 125 := (by omega)
                exact am_k125
              ·
                by_cases hc126128 : y ≤ 126
                ·
                  obtain rfl : y = 126 := (by omega)
                  exact am_k126
                ·
                  obtain rfl : y = 127 := (by omega)
                  exact am_k127
            ·
              by_cases hc128132 : y ≤ 129
              ·
                by_cases hc128130 : y ≤ 128
                ·
                  obtain rfl : y = 128 := (by omega)
                  exact am_k128
                ·
                  obtain rfl : y = 129 := (by omega)
                  exact am_k129
              ·
                by_cases hc130132 : y ≤ 130
                ·
                  obtain rfl : y = 130 := (by omega)
                  exact am_k130
                ·
                  obtain rfl : y = 131 := (by omega)
                  exact am_k131
      ·
        by_cases hc132159 : y ≤ 144
        ·
          by_cases hc132145 : y ≤ 137
          ·
            by_cases hc132138 : y ≤ 134
            ·
              by_cases hc132135 : y ≤ 132
              ·
                obtain rfl : y = 132 := (by omega)
                exact am_k132
              ·
                by_cases hc133135 : y ≤ 133
                ·
                  obtain rfl : y = 133 := (by omega)
                  exact am_k133
                ·
                  obtain rfl : y = 134 := (by omega)
                  exact am_k134
            ·
              by_cases hc135138 : y ≤ 135
              ·
                obtain rfl : y = 135 := (by omega)
                exact am_k135
              ·
                by_cases hc136138 : y ≤ 136
                ·
                  obtain rfl : y = 136 := (by omega)
                  exact am_k136
                ·
                  obtain rfl : y = 137 := (by omega)
                  exact am_k137
          ·
            by_cases hc138145 : y ≤ 140
            ·
              by_cases hc138141 : y ≤ 138
              ·
                obtain rfl : y = 138 := (by omega)
                exact am_k138
              ·
                by_cases hc139141 : y ≤ 139
                ·
                  obtain rfl : y = 139 := (by omega)
                  exact am_k139
                ·
                  obtain rfl : y = 140 := (by omega)
                  exact am_k140
            ·
              by_cases hc141145 : y ≤ 142
              ·
                by_cases hc141143 : y ≤ 141
                ·
                  obtain rfl : y = 141 := (by omega)
                  exact am_k141
                ·
                  obtain rfl : y = 142 := (by omega)
                  exact am_k142
              ·
                by_cases hc143145 : y ≤ 143
                ·
                  obtain rfl : y = 143 := (by omega)
                  exact am_k143
                ·
                  obtain rfl : y = 144 := (by omega)
                  exact am_k144
        ·
          by_cases hc145159 : y ≤ 151
          ·
            by_cases hc145152 : y ≤ 147
            ·
              by_cases hc145148 : y ≤ 145
              ·
                obtain rfl : y = 145 := (by omega)
                exact am_k145
              ·
                by_cases hc146148 : y ≤ 146
                ·
                  obtain rfl : y = 146 := (by omega)
                  exact am_k146
                ·
                  obtain rfl : y = 147 := (by omega)
                  exact am_k147
            ·
              by_cases hc148152 : y ≤ 149
              ·
                by_cases hc148150 : y ≤ 148
                ·
                  obtain rfl : y = 148 := (by omega)
                  exact am_k148
                ·
                  obtain rfl : y = 149 := (by omega)
                  exact am_k149
              ·
                by_cases hc150152 : y ≤ 150
                ·
                  obtain rfl : y = 150 := (by omega)
                  exact am_k150
                ·
                  obtain rfl : y = 151 := (by omega)
                  exact am_k151
          ·
            by_cases hc152159 : y ≤ 154
            ·
              by_cases hc152155 : y ≤ 152
              ·
                obtain rfl : y = 152 := (by omega)
                exact am_k152
              ·
                by_cases hc153155 : y ≤ 153
                ·
                  obtain rfl : y = 153 := (by omega)
                  exact am_k153
                ·
                  obtain rfl : y = 154 := (by omega)
                  exact am_k154
            ·
              by_cases hc155159 : y ≤ 156
              ·
                by_cases hc155157 : y ≤ 155
                ·
                  obtain rfl : y = 155 := (by omega)
                  exact am_k155
                ·
                  obtain rfl : y = 156 := (by omega)
                  exact am_k156
              ·
                by_cases hc157159 : y ≤ 157
                ·
                  obtain rfl : y = 157 := (by omega)
                  exact am_k157
                ·
                  obtain rfl : y = 158 := (by omega)
                  exact am_k158
    ·
      by_cases hc159213 : y ≤ 185
      ·
        by_cases hc159186 : y ≤ 171
        ·
          by_cases hc159172 : y ≤ 164
          ·
            by_cases hc159165 : y ≤ 161
            ·
              by_cases hc159162 : y ≤ 159
              ·
                obtain rfl : y = 159 := (by omega)
                exact am_k159
              ·
                by_cases hc160162 : y ≤ 160
                ·
                  obtain rfl : y = 160 := (by omega)
                  exact am_k160
                ·
                  obtain rfl : y = 161 := (by omega)
                  exact am_k161
            ·
              by_cases hc162165 : y ≤ 162
              ·
                obtain rfl : y = 162 := (by omega)
                exact am_k162
              ·
                by_cases hc163165 : y ≤ 163
                ·
                  obtain rfl : y = 163 := (by omega)
                  exact am_k163
                ·
                  obtain rfl : y = 164 := (by omega)
                  exact am_k164
          ·
            by_cases hc165172 : y ≤ 167
            ·
              by_cases hc165168 : y ≤ 165
              ·
                obtain rfl : y = 165 := (by omega)
                exact am_k165
              ·
                by_cases hc166168 : y ≤ 166
                ·
                  obtain rfl : y = 166 := (by omega)
                  exact am_k166
                ·
                  obtain rfl : y = 167 := (by omega)
                  exact am_k167
            ·
              by_cases hc168172 : y ≤ 169
              ·
                by_cases hc168170 : y ≤ 168
                ·
                  obtain rfl : y = 168 := (by omega)
                  exact am_k168
                ·
                  obtain rfl : y = 169 := (by omega)
                  exact am_k169
              ·
                by_cases hc170172 : y ≤ 170
                ·
                  obtain rfl : y = 170 := (by omega)
                  exact am_k170
                ·
                  obtain rfl : y = 171 := (by omega)
                  exact am_k171
        ·
          by_cases hc172186 : y ≤ 178
          ·
            by_cases hc172179 : y ≤ 174
            ·
              by_cases hc172175 : y ≤ 172
              ·
                obtain rfl : y = 172 := (by omega)
                exact am_k172
              ·
                by_cases hc173175 : y ≤ 173
                ·
                  obtain rfl : y = 173 := (by omega)
                  exact am_k173
                ·
                  obtain rfl : y = 174 := (by omega)
                  exact am_k174
            ·
              by_cases hc175179 : y ≤ 176
              ·
                by_cases hc175177 : y ≤ 175
                ·
                  obtain rfl : y = 175 := (by omega)
                  exact am_k175
                ·
                  obtain rfl : y = 176 := (by omega)
                  exact am_k176
              ·
                by_cases hc177179 : y ≤ 177
                ·
                  obtain rfl : y = 177 := (by omega)
                  exact am_k177
                ·
                  obtain rfl : y = 178 := (by omega)
                  exact am_k178
          ·
            by_cases hc179186 : y ≤ 181
            ·
              by_cases hc179182 : y ≤ 179
              ·
                obtain rfl : y = 179 := (by omega)
                exact am_k179
              ·
                by_cases hc180182 : y ≤ 180
                ·
                  obtain rfl : y = 180 := (by omega)
                  exact am_k180
                ·
                  obtain rfl : y = 181 := (by omega)
                  exact am_k181
            ·
              by_cases hc182186 : y ≤ 183
              ·
                by_cases hc182184 : y ≤ 182
                ·
                  obtain rfl : y = 182 := (by omega)
                  exact am_k182
                ·
                  obtain rfl : y = 183 := (by omega)
                  exact am_k183
              ·
                by_cases hc184186 : y ≤ 184
                ·
                  obtain rfl : y = 184 := (by omega)
                  exact am_k184
                ·
                  obtain rfl : y = 185 := (by omega)
                  exact am_k185
      ·
        by_cases hc186213 : y ≤ 198
        ·
          by_cases hc186199 : y ≤ 191
          ·
            by_cases hc186192 : y ≤ 188
            ·
              by_cases hc186189 : y ≤ 186
              ·
                obtain rfl : y = 186 := (by omega)
                exact am_k186
              ·
                by_cases hc187189 : y ≤ 187
                ·
                  obtain rfl : y = 187 := (by omega)
                  exact am_k187
                ·
                  obtain rfl : y = 188 := (by omega)
                  exact am_k188
            ·
              by_cases hc189192 : y ≤ 189
              ·
                obtain rfl : y = 189 := (by omega)
                exact am_k189
              ·
                by_cases hc190192 : y ≤ 190
                ·
                  obtain rfl : y = 190 := (by omega)
                  exact am_k190
                ·
                  obtain rfl : y = 191 := (by omega)
                  exact am_k191
          ·
            by_cases hc192199 : y ≤ 194
            ·
              by_cases hc192195 : y ≤ 192
              ·
                obtain rfl : y = 192 := (by omega)
                exact am_k192
              ·
                by_cases hc193195 : y ≤ 193
                ·
                  obtain rfl : y = 193 := (by omega)
                  exact am_k193
                ·
                  obtain rfl : y = 194 := (by omega)
                  exact am_k194
            ·
              by_cases hc195199 : y ≤ 196
              ·
                by_cases hc195197 : y ≤ 195
                ·
                  obtain rfl : y = 195 := (by omega)
                  exact am_k195
                ·
                  obtain rfl : y = 196 := (by omega)
                  exact am_k196
              ·
                by_cases hc197199 : y ≤ 197
                ·
                  obtain rfl : y = 197 := (by omega)
                  exact am_k197
                ·
                  obtain rfl : y = 198 := (by omega)
                  exact am_k198
        ·
          by_cases hc199213 : y ≤ 205
          ·
            by_cases hc199206 : y ≤ 201
            ·
              by_cases hc199202 : y ≤ 199
              ·
                obtain rfl : y = 199 := (by omega)
                exact am_k199
              ·
                by_cases hc200202 : y ≤ 200
                ·
                  obtain rfl : y = 200 := (by omega)
                  exact am_k200
                ·
                  obtain rfl : y = 201 := (by omega)
                  exact am_k201
            ·
              by_cases hc202206 : y ≤ 203
              ·
                by_cases hc202204 : y ≤ 202
                ·
                  obtain rfl : y = 202 := (by omega)
                  exact am_k202
                ·
                  obtain rfl : y = 203 := (by omega)
                  exact am_k203
              ·
                by_cases hc204206 : y ≤ 204
                ·
                  obtain rfl : y = 204 := (by omega)
                  exact am_k204
                ·
                  obtain rfl : y = 205 := (by omega)
                  exact am_k205
          ·
            by_cases hc206213 : y ≤ 208
            ·
              by_cases hc206209 : y ≤ 206
              ·
                obtain rfl : y = 206 := (by omega)
                exact am_k206
              ·
                by_cases hc207209 : y ≤ 207
                ·
                  obtain rfl : y = 207 := (by omega)
                  exact am_k207
                ·
                  obtain rfl : y = 208 := (by omega)
                  exact am_k208
            ·
              by_cases hc209213 : y ≤ 210
              ·
                by_cases hc209211 : y ≤ 209
                ·
                  obtain rfl : y = 209 := (by omega)
                  exact am_k209
                ·
                  obtain rfl : y = 210 := (by omega)
                  exact am_k210
              ·
                by_cases hc211213 : y ≤ 211
                ·
                  obtain rfl : y = 211 := (by omega)
                  exact am_k211
                ·
                  obtain rfl : y = 212 := (by omega)
                  exact am_k212
