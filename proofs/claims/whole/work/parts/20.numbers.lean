/-! classes of methods and of places by numbers; written by wip/whole/gen_lift.py's neighbour  -/
def am_mc (y : Nat) : Nat := bif Nat.ble y 105 then bif Nat.ble y 52 then bif Nat.ble y 25 then bif Nat.ble y 12 then bif Nat.ble y 5 then bif Nat.ble y 2 then bif Nat.ble y 0 then 99 else bif Nat.ble y 1 then 0 else 0 else bif Nat.ble y 3 then 0 else bif Nat.ble y 4 then 0 else 0 else bif Nat.ble y 8 then bif Nat.ble y 6 then 0 else bif Nat.ble y 7 then 0 else 0 else bif Nat.ble y 10 then bif Nat.ble y 9 then 0 else 0 else bif Nat.ble y 11 then 0 else 0 else bif Nat.ble y 18 then bif Nat.ble y 15 then bif Nat.ble y 13 then 0 else bif Nat.ble y 14 then 0 else 0 else bif Nat.ble y 16 then 1 else bif Nat.ble y 17 then 1 else 1 else bif Nat.ble y 21 then bif Nat.ble y 19 then 1 else bif Nat.ble y 20 then 1 else 1 else bif Nat.ble y 23 then bif Nat.ble y 22 then 1 else 1 else bif Nat.ble y 24 then 2 else 2 else bif Nat.ble y 38 then bif Nat.ble y 31 then bif Nat.ble y 28 then bif Nat.ble y 26 then 2 else bif Nat.ble y 27 then 2 else 2 else bif Nat.ble y 29 then 2 else bif Nat.ble y 30 then 2 else 2 else bif Nat.ble y 34 then bif Nat.ble y 32 then 2 else bif Nat.ble y 33 then 3 else 3 else bif Nat.ble y 36 then bif Nat.ble y 35 then 3 else 3 else bif Nat.ble y 37 then 3 else 4 else bif Nat.ble y 45 then bif Nat.ble y 41 then bif Nat.ble y 39 then 4 else bif Nat.ble y 40 then 4 else 4 else bif Nat.ble y 43 then bif Nat.ble y 42 then 4 else 4 else bif Nat.ble y 44 then 4 else 4 else bif Nat.ble y 48 then bif Nat.ble y 46 then 4 else bif Nat.ble y 47 then 4 else 4 else bif Nat.ble y 50 then bif Nat.ble y 49 then 4 else 4 else bif Nat.ble y 51 then 5 else 5 else bif Nat.ble y 78 then bif Nat.ble y 65 then bif Nat.ble y 58 then bif Nat.ble y 55 then bif Nat.ble y 53 then 5 else bif Nat.ble y 54 then 5 else 5 else bif Nat.ble y 56 then 5 else bif Nat.ble y 57 then 5 else 5 else bif Nat.ble y 61 then bif Nat.ble y 59 then 5 else bif Nat.ble y 60 then 5 else 5 else bif Nat.ble y 63 then bif Nat.ble y 62 then 6 else 6 else bif Nat.ble y 64 then 6 else 6 else bif Nat.ble y 71 then bif Nat.ble y 68 then bif Nat.ble y 66 then 6 else bif Nat.ble y 67 then 7 else 7 else bif Nat.ble y 69 then 7 else bif Nat.ble y 70 then 7 else 7 else bif Nat.ble y 74 then bif Nat.ble y 72 then 7 else bif Nat.ble y 73 then 7 else 8 else bif Nat.ble y 76 then bif Nat.ble y 75 then 8 else 8 else bif Nat.ble y 77 then 8 else 8 else bif Nat.ble y 91 then bif Nat.ble y 84 then bif Nat.ble y 81 then bif Nat.ble y 79 then 8 else bif Nat.ble y 80 then 8 else 8 else bif Nat.ble y 82 then 8 else bif Nat.ble y 83 then 8 else 9 else bif Nat.ble y 87 then bif Nat.ble y 85 then 9 else bif Nat.ble y 86 then 9 else 9 else bif Nat.ble y 89 then bif Nat.ble y 88 then 9 else 9 else bif Nat.ble y 90 then 9 else 9 else bif Nat.ble y 98 then bif Nat.ble y 94 then bif Nat.ble y 92 then 9 else bif Nat.ble y 93 then 9 else 9 else bif Nat.ble y 96 then bif Nat.ble y 95 then 9 else 9 else bif Nat.ble y 97 then 9 else 9 else bif Nat.ble y 101 then bif Nat.ble y 99 then 9 else bif Nat.ble y 100 then 10 else 10 else bif Nat.ble y 103 then bif Nat.ble y 102 then 10 else 10 else bif Nat.ble y 104 then 10 else 10 else bif Nat.ble y 158 then bif Nat.ble y 131 then bif Nat.ble y 118 then bif Nat.ble y 111 then bif Nat.ble y 108 then bif Nat.ble y 106 then 10 else bif Nat.ble y 107 then 10 else 10 else bif Nat.ble y 109 then 10 else bif Nat.ble y 110 then 10 else 11 else bif Nat.ble y 114 then bif Nat.ble y 112 then 11 else bif Nat.ble y 113 then 11 else 11 else bif Nat.ble y 116 then bif Nat.ble y 115 then 11 else 11 else bif Nat.ble y 117 then 11 else 11 else bif Nat.ble y 124 then bif Nat.ble y 121 then bif Nat.ble y 119 then 11 else bif Nat.ble y 120 then 11 else 11 else bif Nat.ble y 122 then 11 else bif Nat.ble y 123 then 11 else 11 else bif Nat.ble y 127 then bif Nat.ble y 125 then 11 else bif Nat.ble y 126 then 11 else 11 else bif Nat.ble y 129 then bif Nat.ble y 128 then 11 else 11 else bif Nat.ble y 130 then 11 else 11 else bif Nat.ble y 144 then bif Nat.ble y 137 then bif Nat.ble y 134 then bif Nat.ble y 132 then 11 else bif Nat.ble y 133 then 11 else 11 else bif Nat.ble y 135 then 11 else bif Nat.ble y 136 then 11 else 11 else bif Nat.ble y 140 then bif Nat.ble y 138 then 11 else bif Nat.ble y 139 then 11 else 11 else bif Nat.ble y 142 then bif Nat.ble y 141 then 11 else 11 else bif Nat.ble y 143 then 11 else 11 else bif Nat.ble y 151 then bif Nat.ble y 147 then bif Nat.ble y 145 then 11 else bif Nat.ble y 146 then 11 else 11 else bif Nat.ble y 149 then bif Nat.ble y 148 then 11 else 11 else bif Nat.ble y 150 then 11 else 11 else bif Nat.ble y 154 then bif Nat.ble y 152 then 11 else bif Nat.ble y 153 then 11 else 11 else bif Nat.ble y 156 then bif Nat.ble y 155 then 11 else 11 else bif Nat.ble y 157 then 11 else 11 else bif Nat.ble y 185 then bif Nat.ble y 171 then bif Nat.ble y 164 then bif Nat.ble y 161 then bif Nat.ble y 159 then 11 else bif Nat.ble y 160 then 11 else 11 else bif Nat.ble y 162 then 11 else bif Nat.ble y 163 then 11 else 11 else bif Nat.ble y 167 then bif Nat.ble y 165 then 11 else bif Nat.ble y 166 then 11 else 11 else bif Nat.ble y 169 then bif Nat.ble y 168 then 11 else 11 else bif Nat.ble y 170 then 11 else 11 else bif Nat.ble y 178 then bif Nat.ble y 174 then bif Nat.ble y 172 then 11 else bif Nat.ble y 173 then 11 else 11 else bif Nat.ble y 176 then bif Nat.ble y 175 then 11 else 11 else bif Nat.ble y 177 then 11 else 11 else bif Nat.ble y 181 then bif Nat.ble y 179 then 11 else bif Nat.ble y 180 then 11 else 11 else bif Nat.ble y 183 then bif Nat.ble y 182 then 11 else 11 else bif Nat.ble y 184 then 12 else 12 else bif Nat.ble y 198 then bif Nat.ble y 191 then bif Nat.ble y 188 then bif Nat.ble y 186 then 12 else bif Nat.ble y 187 then 12 else 12 else bif Nat.ble y 189 then 12 else bif Nat.ble y 190 then 99 else 99 else bif Nat.ble y 194 then bif Nat.ble y 192 then 99 else bif Nat.ble y 193 then 99 else 99 else bif Nat.ble y 196 then bif Nat.ble y 195 then 99 else 99 else bif Nat.ble y 197 then 99 else 99 else bif Nat.ble y 205 then bif Nat.ble y 201 then bif Nat.ble y 199 then 99 else bif Nat.ble y 200 then 99 else 99 else bif Nat.ble y 203 then bif Nat.ble y 202 then 99 else 99 else bif Nat.ble y 204 then 99 else 99 else bif Nat.ble y 208 then bif Nat.ble y 206 then 99 else bif Nat.ble y 207 then 99 else 99 else bif Nat.ble y 210 then bif Nat.ble y 209 then 99 else 99 else bif Nat.ble y 211 then 99 else 99
set_option maxHeartbeats 4000000 in
set_option maxRecDepth 100000 in
theorem am_mc_ok (y : Nat) (hy : y ≤ 212) : am_mc y < 13 → ∃ C T N, am_cls[am_mc y]? = some (C, T, N) ∧ C = (am_Mt y).1.cls := by
  by_cases hc213 : y ≤ 105
  ·
    by_cases hc106 : y ≤ 52
    ·
      by_cases hc53 : y ≤ 25
      ·
        by_cases hc26 : y ≤ 12
        ·
          by_cases hc13 : y ≤ 5
          ·
            by_cases hc6 : y ≤ 2
            ·
              by_cases hc3 : y ≤ 0
              ·
                obtain rfl : y = 0 := (by omega)
                exact fun h => absurd h (by decide)
              ·
                by_cases hc1003 : y ≤ 1
                ·
                  obtain rfl : y = 1 := (by omega)
                  exact fun _ => ⟨_, _, _, rfl, rfl⟩
                ·
                  obtain rfl : y = 2 := (by omega)
                  exact fun _ => ⟨_, _, _, rfl, rfl⟩
            ·
              by_cases hc3006 : y ≤ 3
              ·
                obtain rfl : y = 3 := (by omega)
                exact fun _ => ⟨_, _, _, rfl, rfl⟩
              ·
                by_cases hc4006 : y ≤ 4
                ·
                  obtain rfl : y = 4 := (by omega)
                  exact fun _ => ⟨_, _, _, rfl, rfl⟩
                ·
                  obtain rfl : y = 5 := (by omega)
                  exact fun _ => ⟨_, _, _, rfl, rfl⟩
          ·
            by_cases hc6013 : y ≤ 8
            ·
              by_cases hc6009 : y ≤ 6
              ·
                obtain rfl : y = 6 := (by omega)
                exact fun _ => ⟨_, _, _, rfl, rfl⟩
              ·
                by_cases hc7009 : y ≤ 7
                ·
                  obtain rfl : y = 7 := (by omega)
                  exact fun _ => ⟨_, _, _, rfl, rfl⟩
                ·
                  obtain rfl : y = 8 := (by omega)
                  exact fun _ => ⟨_, _, _, rfl, rfl⟩
            ·
              by_cases hc9013 : y ≤ 10
              ·
                by_cases hc9011 : y ≤ 9
                ·
                  obtain rfl : y = 9 := (by omega)
                  exact fun _ => ⟨_, _, _, rfl, rfl⟩
                ·
                  obtain rfl : y = 10 := (by omega)
                  exact fun _ => ⟨_, _, _, rfl, rfl⟩
              ·
                by_cases hc11013 : y ≤ 11
                ·
                  obtain rfl : y = 11 := (by omega)
                  exact fun _ => ⟨_, _, _, rfl, rfl⟩
                ·
                  obtain rfl : y = 12 := (by omega)
                  exact fun _ => ⟨_, _, _, rfl, rfl⟩
        ·
          by_cases hc13026 : y ≤ 18
          ·
            by_cases hc13019 : y ≤ 15
            ·
              by_cases hc13016 : y ≤ 13
              ·
                obtain rfl : y = 13 := (by omega)
                exact fun _ => ⟨_, _, _, rfl, rfl⟩
              ·
                by_cases hc14016 : y ≤ 14
                ·
                  obtain rfl : y = 14 := (by omega)
                  exact fun _ => ⟨_, _, _, rfl, rfl⟩
                ·
                  obtain rfl : y = 15 := (by omega)
                  exact fun _ => ⟨_, _, _, rfl, rfl⟩
            ·
              by_cases hc16019 : y ≤ 16
              ·
                obtain rfl : y = 16 := (by omega)
                exact fun _ => ⟨_, _, _, rfl, rfl⟩
              ·
                by_cases hc17019 : y ≤ 17
                ·
                  obtain rfl : y = 17 := (by omega)
                  exact fun _ => ⟨_, _, _, rfl, rfl⟩
                ·
                  obtain rfl : y = 18 := (by omega)
                  exact fun _ => ⟨_, _, _, rfl, rfl⟩
          ·
            by_cases hc19026 : y ≤ 21
            ·
              by_cases hc19022 : y ≤ 19
              ·
                obtain rfl : y = 19 := (by omega)
                exact fun _ => ⟨_, _, _, rfl, rfl⟩
              ·
                by_cases hc20022 : y ≤ 20
                ·
                  obtain rfl : y = 20 := (by omega)
                  exact fun _ => ⟨_, _, _, rfl, rfl⟩
                ·
                  obtain rfl : y = 21 := (by omega)
                  exact fun _ => ⟨_, _, _, rfl, rfl⟩
            ·
              by_cases hc22026 : y ≤ 23
              ·
                by_cases hc22024 : y ≤ 22
                ·
                  obtain rfl : y = 22 := (by omega)
                  exact fun _ => ⟨_, _, _, rfl, rfl⟩
                ·
                  obtain rfl : y = 23 := (by omega)
                  exact fun _ => ⟨_, _, _, rfl, rfl⟩
              ·
                by_cases hc24026 : y ≤ 24
                ·
                  obtain rfl : y = 24 := (by omega)
                  exact fun _ => ⟨_, _, _, rfl, rfl⟩
                ·
                  obtain rfl : y = 25 := (by omega)
                  exact fun _ => ⟨_, _, _, rfl, rfl⟩
      ·
        by_cases hc26053 : y ≤ 38
        ·
          by_cases hc26039 : y ≤ 31
          ·
            by_cases hc26032 : y ≤ 28
            ·
              by_cases hc26029 : y ≤ 26
              ·
                obtain rfl : y = 26 := (by omega)
                exact fun _ => ⟨_, _, _, rfl, rfl⟩
              ·
                by_cases hc27029 : y ≤ 27
                ·
                  obtain rfl : y = 27 := (by omega)
                  exact fun _ => ⟨_, _, _, rfl, rfl⟩
                ·
                  obtain rfl : y = 28 := (by omega)
                  exact fun _ => ⟨_, _, _, rfl, rfl⟩
            ·
              by_cases hc29032 : y ≤ 29
              ·
                obtain rfl : y = 29 := (by omega)
                exact fun _ => ⟨_, _, _, rfl, rfl⟩
              ·
                by_cases hc30032 : y ≤ 30
                ·
                  obtain rfl : y = 30 := (by omega)
                  exact fun _ => ⟨_, _, _, rfl, rfl⟩
                ·
                  obtain rfl : y = 31 := (by omega)
                  exact fun _ => ⟨_, _, _, rfl, rfl⟩
          ·
            by_cases hc32039 : y ≤ 34
            ·
              by_cases hc32035 : y ≤ 32
              ·
                obtain rfl : y = 32 := (by omega)
                exact fun _ => ⟨_, _, _, rfl, rfl⟩
              ·
                by_cases hc33035 : y ≤ 33
                ·
                  obtain rfl : y = 33 := (by omega)
                  exact fun _ => ⟨_, _, _, rfl, rfl⟩
                ·
                  obtain rfl : y = 34 := (by omega)
                  exact fun _ => ⟨_, _, _, rfl, rfl⟩
            ·
              by_cases hc35039 : y ≤ 36
              ·
                by_cases hc35037 : y ≤ 35
                ·
                  obtain rfl : y = 35 := (by omega)
                  exact fun _ => ⟨_, _, _, rfl, rfl⟩
                ·
                  obtain rfl : y = 36 := (by omega)
                  exact fun _ => ⟨_, _, _, rfl, rfl⟩
              ·
                by_cases hc37039 : y ≤ 37
                ·
                  obtain rfl : y = 37 := (by omega)
                  exact fun _ => ⟨_, _, _, rfl, rfl⟩
                ·
                  obtain rfl : y = 38 := (by omega)
                  exact fun _ => ⟨_, _, _, rfl, rfl⟩
        ·
          by_cases hc39053 : y ≤ 45
          ·
            by_cases hc39046 : y ≤ 41
            ·
              by_cases hc39042 : y ≤ 39
              ·
                obtain rfl : y = 39 := (by omega)
                exact fun _ => ⟨_, _, _, rfl, rfl⟩
              ·
                by_cases hc40042 : y ≤ 40
                ·
                  obtain rfl : y = 40 := (by omega)
                  exact fun _ => ⟨_, _, _, rfl, rfl⟩
                ·
                  obtain rfl : y = 41 := (by omega)
                  exact fun _ => ⟨_, _, _, rfl, rfl⟩
            ·
              by_cases hc42046 : y ≤ 43
              ·
                by_cases hc42044 : y ≤ 42
                ·
                  obtain rfl : y = 42 := (by omega)
                  exact fun _ => ⟨_, _, _, rfl, rfl⟩
                ·
                  obtain rfl : y = 43 := (by omega)
                  exact fun _ => ⟨_, _, _, rfl, rfl⟩
              ·
                by_cases hc44046 : y ≤ 44
                ·
                  obtain rfl : y = 44 := (by omega)
                  exact fun _ => ⟨_, _, _, rfl, rfl⟩
                ·
                  obtain rfl : y = 45 := (by omega)
                  exact fun _ => ⟨_, _, _, rfl, rfl⟩
          ·
            by_cases hc46053 : y ≤ 48
            ·
              by_cases hc46049 : y ≤ 46
              ·
                obtain rfl : y = 46 := (by omega)
                exact fun _ => ⟨_, _, _, rfl, rfl⟩
              ·
                by_cases hc47049 : y ≤ 47
                ·
                  obtain rfl : y = 47 := (by omega)
                  exact fun _ => ⟨_, _, _, rfl, rfl⟩
                ·
                  obtain rfl : y = 48 := (by omega)
                  exact fun _ => ⟨_, _, _, rfl, rfl⟩
            ·
              by_cases hc49053 : y ≤ 50
              ·
                by_cases hc49051 : y ≤ 49
                ·
                  obtain rfl : y = 49 := (by omega)
                  exact fun _ => ⟨_, _, _, rfl, rfl⟩
                ·
                  obtain rfl : y = 50 := (by omega)
                  exact fun _ => ⟨_, _, _, rfl, rfl⟩
              ·
                by_cases hc51053 : y ≤ 51
                ·
                  obtain rfl : y = 51 := (by omega)
                  exact fun _ => ⟨_, _, _, rfl, rfl⟩
                ·
                  obtain rfl : y = 52 := (by omega)
                  exact fun _ => ⟨_, _, _, rfl, rfl⟩
    ·
      by_cases hc53106 : y ≤ 78
      ·
        by_cases hc53079 : y ≤ 65
        ·
          by_cases hc53066 : y ≤ 58
          ·
            by_cases hc53059 : y ≤ 55
            ·
              by_cases hc53056 : y ≤ 53
              ·
                obtain rfl : y = 53 := (by omega)
                exact fun _ => ⟨_, _, _, rfl, rfl⟩
              ·
                by_cases hc54056 : y ≤ 54
                ·
                  obtain rfl : y = 54 := (by omega)
                  exact fun _ => ⟨_, _, _, rfl, rfl⟩
                ·
                  obtain rfl : y = 55 := (by omega)
                  exact fun _ => ⟨_, _, _, rfl, rfl⟩
            ·
              by_cases hc56059 : y ≤ 56
              ·
                obtain rfl : y = 56 := (by omega)
                exact fun _ => ⟨_, _, _, rfl, rfl⟩
              ·
                by_cases hc57059 : y ≤ 57
                ·
                  obtain rfl : y = 57 := (by omega)
                  exact fun _ => ⟨_, _, _, rfl, rfl⟩
                ·
                  obtain rfl : y = 58 := (by omega)
                  exact fun _ => ⟨_, _, _, rfl, rfl⟩
          ·
            by_cases hc59066 : y ≤ 61
            ·
              by_cases hc59062 : y ≤ 59
              ·
                obtain rfl : y = 59 := (by omega)
                exact fun _ => ⟨_, _, _, rfl, rfl⟩
              ·
                by_cases hc60062 : y ≤ 60
                ·
                  obtain rfl : y = 60 := (by omega)
                  exact fun _ => ⟨_, _, _, rfl, rfl⟩
                ·
                  obtain rfl : y = 61 := (by omega)
                  exact fun _ => ⟨_, _, _, rfl, rfl⟩
            ·
              by_cases hc62066 : y ≤ 63
              ·
                by_cases hc62064 : y ≤ 62
                ·
                  obtain rfl : y = 62 := (by omega)
                  exact fun _ => ⟨_, _, _, rfl, rfl⟩
                ·
                  obtain rfl : y = 63 := (by omega)
                  exact fun _ => ⟨_, _, _, rfl, rfl⟩
              ·
                by_cases hc64066 : y ≤ 64
                ·
                  obtain rfl : y = 64 := (by omega)
                  exact fun _ => ⟨_, _, _, rfl, rfl⟩
                ·
                  obtain rfl : y = 65 := (by omega)
                  exact fun _ => ⟨_, _, _, rfl, rfl⟩
        ·
          by_cases hc66079 : y ≤ 71
          ·
            by_cases hc66072 : y ≤ 68
            ·
              by_cases hc66069 : y ≤ 66
              ·
                obtain rfl : y = 66 := (by omega)
                exact fun _ => ⟨_, _, _, rfl, rfl⟩
              ·
                by_cases hc67069 : y ≤ 67
                ·
                  obtain rfl : y = 67 := (by omega)
                  exact fun _ => ⟨_, _, _, rfl, rfl⟩
                ·
                  obtain rfl : y = 68 := (by omega)
                  exact fun _ => ⟨_, _, _, rfl, rfl⟩
            ·
              by_cases hc69072 : y ≤ 69
              ·
                obtain rfl : y = 69 := (by omega)
                exact fun _ => ⟨_, _, _, rfl, rfl⟩
              ·
                by_cases hc70072 : y ≤ 70
                ·
                  obtain rfl : y = 70 := (by omega)
                  exact fun _ => ⟨_, _, _, rfl, rfl⟩
                ·
                  obtain rfl : y = 71 := (by omega)
                  exact fun _ => ⟨_, _, _, rfl, rfl⟩
          ·
            by_cases hc72079 : y ≤ 74
            ·
              by_cases hc72075 : y ≤ 72
              ·
                obtain rfl : y = 72 := (by omega)
                exact fun _ => ⟨_, _, _, rfl, rfl⟩
              ·
                by_cases hc73075 : y ≤ 73
                ·
                  obtain rfl : y = 73 := (by omega)
                  exact fun _ => ⟨_, _, _, rfl, rfl⟩
                ·
                  obtain rfl : y = 74 := (by omega)
                  exact fun _ => ⟨_, _, _, rfl, rfl⟩
            ·
              by_cases hc75079 : y ≤ 76
              ·
                by_cases hc75077 : y ≤ 75
                ·
                  obtain rfl : y = 75 := (by omega)
                  exact fun _ => ⟨_, _, _, rfl, rfl⟩
                ·
                  obtain rfl : y = 76 := (by omega)
                  exact fun _ => ⟨_, _, _, rfl, rfl⟩
              ·
                by_cases hc77079 : y ≤ 77
                ·
                  obtain rfl : y = 77 := (by omega)
                  exact fun _ => ⟨_, _, _, rfl, rfl⟩
                ·
                  obtain rfl : y = 78 := (by omega)
                  exact fun _ => ⟨_, _, _, rfl, rfl⟩
      ·
        by_cases hc79106 : y ≤ 91
        ·
          by_cases hc79092 : y ≤ 84
          ·
            by_cases hc79085 : y ≤ 81
            ·
              by_cases hc79082 : y ≤ 79
              ·
                obtain rfl : y = 79 := (by omega)
                exact fun _ => ⟨_, _, _, rfl, rfl⟩
              ·
                by_cases hc80082 : y ≤ 80
                ·
                  obtain rfl : y = 80 := (by omega)
                  exact fun _ => ⟨_, _, _, rfl, rfl⟩
                ·
                  obtain rfl : y = 81 := (by omega)
                  exact fun _ => ⟨_, _, _, rfl, rfl⟩
            ·
              by_cases hc82085 : y ≤ 82
              ·
                obtain rfl : y = 82 := (by omega)
                exact fun _ => ⟨_, _, _, rfl, rfl⟩
              ·
                by_cases hc83085 : y ≤ 83
                ·
                  obtain rfl : y = 83 := (by omega)
                  exact fun _ => ⟨_, _, _, rfl, rfl⟩
                ·
                  obtain rfl : y = 84 := (by omega)
                  exact fun _ => ⟨_, _, _, rfl, rfl⟩
          ·
            by_cases hc85092 : y ≤ 87
            ·
              by_cases hc85088 : y ≤ 85
              ·
                obtain rfl : y = 85 := (by omega)
                exact fun _ => ⟨_, _, _, rfl, rfl⟩
              ·
                by_cases hc86088 : y ≤ 86
                ·
                  obtain rfl : y = 86 := (by omega)
                  exact fun _ => ⟨_, _, _, rfl, rfl⟩
                ·
                  obtain rfl : y = 87 := (by omega)
                  exact fun _ => ⟨_, _, _, rfl, rfl⟩
            ·
              by_cases hc88092 : y ≤ 89
              ·
                by_cases hc88090 : y ≤ 88
                ·
                  obtain rfl : y = 88 := (by omega)
                  exact fun _ => ⟨_, _, _, rfl, rfl⟩
                ·
                  obtain rfl : y = 89 := (by omega)
                  exact fun _ => ⟨_, _, _, rfl, rfl⟩
              ·
                by_cases hc90092 : y ≤ 90
                ·
                  obtain rfl : y = 90 := (by omega)
                  exact fun _ => ⟨_, _, _, rfl, rfl⟩
                ·
                  obtain rfl : y = 91 := (by omega)
                  exact fun _ => ⟨_, _, _, rfl, rfl⟩
        ·
          by_cases hc92106 : y ≤ 98
          ·
            by_cases hc92099 : y ≤ 94
            ·
              by_cases hc92095 : y ≤ 92
              ·
                obtain rfl : y = 92 := (by omega)
                exact fun _ => ⟨_, _, _, rfl, rfl⟩
              ·
                by_cases hc93095 : y ≤ 93
                ·
                  obtain rfl : y = 93 := (by omega)
                  exact fun _ => ⟨_, _, _, rfl, rfl⟩
                ·
                  obtain rfl : y = 94 := (by omega)
                  exact fun _ => ⟨_, _, _, rfl, rfl⟩
            ·
              by_cases hc95099 : y ≤ 96
              ·
                by_cases hc95097 : y ≤ 95
                ·
                  obtain rfl : y = 95 := (by omega)
                  exact fun _ => ⟨_, _, _, rfl, rfl⟩
                ·
                  obtain rfl : y = 96 := (by omega)
                  exact fun _ => ⟨_, _, _, rfl, rfl⟩
              ·
                by_cases hc97099 : y ≤ 97
                ·
                  obtain rfl : y = 97 := (by omega)
                  exact fun _ => ⟨_, _, _, rfl, rfl⟩
                ·
                  obtain rfl : y = 98 := (by omega)
                  exact fun _ => ⟨_, _, _, rfl, rfl⟩
          ·
            by_cases hc99106 : y ≤ 101
            ·
              by_cases hc99102 : y ≤ 99
              ·
                obtain rfl : y = 99 := (by omega)
                exact fun _ => ⟨_, _, _, rfl, rfl⟩
              ·
                by_cases hc100102 : y ≤ 100
                ·
                  obtain rfl : y = 100 := (by omega)
                  exact fun _ => ⟨_, _, _, rfl, rfl⟩
                ·
                  obtain rfl : y = 101 := (by omega)
                  exact fun _ => ⟨_, _, _, rfl, rfl⟩
            ·
              by_cases hc102106 : y ≤ 103
              ·
                by_cases hc102104 : y ≤ 102
                ·
                  obtain rfl : y = 102 := (by omega)
                  exact fun _ => ⟨_, _, _, rfl, rfl⟩
                ·
                  obtain rfl : y = 103 := (by omega)
                  exact fun _ => ⟨_, _, _, rfl, rfl⟩
              ·
                by_cases hc104106 : y ≤ 104
                ·
                  obtain rfl : y = 104 := (by omega)
                  exact fun _ => ⟨_, _, _, rfl, rfl⟩
                ·
                  obtain rfl : y = 105 := (by omega)
                  exact fun _ => ⟨_, _, _, rfl, rfl⟩
  ·
    by_cases hc106213 : y ≤ 158
    ·
      by_cases hc106159 : y ≤ 131
      ·
        by_cases hc106132 : y ≤ 118
        ·
          by_cases hc106119 : y ≤ 111
          ·
            by_cases hc106112 : y ≤ 108
            ·
              by_cases hc106109 : y ≤ 106
              ·
                obtain rfl : y = 106 := (by omega)
                exact fun _ => ⟨_, _, _, rfl, rfl⟩
              ·
                by_cases hc107109 : y ≤ 107
                ·
                  obtain rfl : y = 107 := (by omega)
                  exact fun _ => ⟨_, _, _, rfl, rfl⟩
                ·
                  obtain rfl : y = 108 := (by omega)
                  exact fun _ => ⟨_, _, _, rfl, rfl⟩
            ·
              by_cases hc109112 : y ≤ 109
              ·
                obtain rfl : y = 109 := (by omega)
                exact fun _ => ⟨_, _, _, rfl, rfl⟩
              ·
                by_cases hc110112 : y ≤ 110
                ·
                  obtain rfl : y = 110 := (by omega)
                  exact fun _ => ⟨_, _, _, rfl, rfl⟩
                ·
                  obtain rfl : y = 111 := (by omega)
                  exact fun _ => ⟨_, _, _, rfl, rfl⟩
          ·
            by_cases hc112119 : y ≤ 114
            ·
              by_cases hc112115 : y ≤ 112
              ·
                obtain rfl : y = 112 := (by omega)
                exact fun _ => ⟨_, _, _, rfl, rfl⟩
              ·
                by_cases hc113115 : y ≤ 113
                ·
                  obtain rfl : y = 113 := (by omega)
                  exact fun _ => ⟨_, _, _, rfl, rfl⟩
                ·
                  obtain rfl : y = 114 := (by omega)
                  exact fun _ => ⟨_, _, _, rfl, rfl⟩
            ·
              by_cases hc115119 : y ≤ 116
              ·
                by_cases hc115117 : y ≤ 115
                ·
                  obtain rfl : y = 115 := (by omega)
                  exact fun _ => ⟨_, _, _, rfl, rfl⟩
                ·
                  obtain rfl : y = 116 := (by omega)
                  exact fun _ => ⟨_, _, _, rfl, rfl⟩
              ·
                by_cases hc117119 : y ≤ 117
                ·
                  obtain rfl : y = 117 := (by omega)
                  exact fun _ => ⟨_, _, _, rfl, rfl⟩
                ·
                  obtain rfl : y = 118 := (by omega)
                  exact fun _ => ⟨_, _, _, rfl, rfl⟩
        ·
          by_cases hc119132 : y ≤ 124
          ·
            by_cases hc119125 : y ≤ 121
            ·
              by_cases hc119122 : y ≤ 119
              ·
                obtain rfl : y = 119 := (by omega)
                exact fun _ => ⟨_, _, _, rfl, rfl⟩
              ·
                by_cases hc120122 : y ≤ 120
                ·
                  obtain rfl : y = 120 := (by omega)
                  exact fun _ => ⟨_, _, _, rfl, rfl⟩
                ·
                  obtain rfl : y = 121 := (by omega)
                  exact fun _ => ⟨_, _, _, rfl, rfl⟩
            ·
              by_cases hc122125 : y ≤ 122
              ·
                obtain rfl : y = 122 := (by omega)
                exact fun _ => ⟨_, _, _, rfl, rfl⟩
              ·
                by_cases hc123125 : y ≤ 123
                ·
                  obtain rfl : y = 123 := (by omega)
                  exact fun _ => ⟨_, _, _, rfl, rfl⟩
                ·
                  obtain rfl : y = 124 := (by omega)
                  exact fun _ => ⟨_, _, _, rfl, rfl⟩
          ·
            by_cases hc125132 : y ≤ 127
            ·
              by_cases hc125128 : y ≤ 125
              ·
                obtain rfl : y = 125 := (by omega)
                exact fun _ => ⟨_, _, _, rfl, rfl⟩
              ·
                by_cases hc126128 : y ≤ 126
                ·
                  obtain rfl : y = 126 := (by omega)
                  exact fun _ => ⟨_, _, _, rfl, rfl⟩
                ·
                  obtain rfl : y = 127 := (by omega)
                  exact fun _ => ⟨_, _, _, rfl, rfl⟩
            ·
              by_cases hc128132 : y ≤ 129
              ·
                by_cases hc128130 : y ≤ 128
                ·
                  obtain rfl : y = 128 := (by omega)
                  exact fun _ => ⟨_, _, _, rfl, rfl⟩
                ·
                  obtain rfl : y = 129 := (by omega)
                  exact fun _ => ⟨_, _, _, rfl, rfl⟩
              ·
                by_cases hc130132 : y ≤ 130
                ·
                  obtain rfl : y = 130 := (by omega)
                  exact fun _ => ⟨_, _, _, rfl, rfl⟩
                ·
                  obtain rfl : y = 131 := (by omega)
                  exact fun _ => ⟨_, _, _, rfl, rfl⟩
      ·
        by_cases hc132159 : y ≤ 144
        ·
          by_cases hc132145 : y ≤ 137
          ·
            by_cases hc132138 : y ≤ 134
            ·
              by_cases hc132135 : y ≤ 132
              ·
                obtain rfl : y = 132 := (by omega)
                exact fun _ => ⟨_, _, _, rfl, rfl⟩
              ·
                by_cases hc133135 : y ≤ 133
                ·
                  obtain rfl : y = 133 := (by omega)
                  exact fun _ => ⟨_, _, _, rfl, rfl⟩
                ·
                  obtain rfl : y = 134 := (by omega)
                  exact fun _ => ⟨_, _, _, rfl, rfl⟩
            ·
              by_cases hc135138 : y ≤ 135
              ·
                obtain rfl : y = 135 := (by omega)
                exact fun _ => ⟨_, _, _, rfl, rfl⟩
              ·
                by_cases hc136138 : y ≤ 136
                ·
                  obtain rfl : y = 136 := (by omega)
                  exact fun _ => ⟨_, _, _, rfl, rfl⟩
                ·
                  obtain rfl : y = 137 := (by omega)
                  exact fun _ => ⟨_, _, _, rfl, rfl⟩
          ·
            by_cases hc138145 : y ≤ 140
            ·
              by_cases hc138141 : y ≤ 138
              ·
                obtain rfl : y = 138 := (by omega)
                exact fun _ => ⟨_, _, _, rfl, rfl⟩
              ·
                by_cases hc139141 : y ≤ 139
                ·
                  obtain rfl : y = 139 := (by omega)
                  exact fun _ => ⟨_, _, _, rfl, rfl⟩
                ·
                  obtain rfl : y = 140 := (by omega)
                  exact fun _ => ⟨_, _, _, rfl, rfl⟩
            ·
              by_cases hc141145 : y ≤ 142
              ·
                by_cases hc141143 : y ≤ 141
                ·
                  obtain rfl : y = 141 := (by omega)
                  exact fun _ => ⟨_, _, _, rfl, rfl⟩
                ·
                  obtain rfl : y = 142 := (by omega)
                  exact fun _ => ⟨_, _, _, rfl, rfl⟩
              ·
                by_cases hc143145 : y ≤ 143
                ·
                  obtain rfl : y = 143 := (by omega)
                  exact fun _ => ⟨_, _, _, rfl, rfl⟩
                ·
                  obtain rfl : y = 144 := (by omega)
                  exact fun _ => ⟨_, _, _, rfl, rfl⟩
        ·
          by_cases hc145159 : y ≤ 151
          ·
            by_cases hc145152 : y ≤ 147
            ·
              by_cases hc145148 : y ≤ 145
              ·
                obtain rfl : y = 145 := (by omega)
                exact fun _ => ⟨_, _, _, rfl, rfl⟩
              ·
                by_cases hc146148 : y ≤ 146
                ·
                  obtain rfl : y = 146 := (by omega)
                  exact fun _ => ⟨_, _, _, rfl, rfl⟩
                ·
                  obtain rfl : y = 147 := (by omega)
                  exact fun _ => ⟨_, _, _, rfl, rfl⟩
            ·
              by_cases hc148152 : y ≤ 149
              ·
                by_cases hc148150 : y ≤ 148
                ·
                  obtain rfl : y = 148 := (by omega)
                  exact fun _ => ⟨_, _, _, rfl, rfl⟩
                ·
                  obtain rfl : y = 149 := (by omega)
                  exact fun _ => ⟨_, _, _, rfl, rfl⟩
              ·
                by_cases hc150152 : y ≤ 150
                ·
                  obtain rfl : y = 150 := (by omega)
                  exact fun _ => ⟨_, _, _, rfl, rfl⟩
                ·
                  obtain rfl : y = 151 := (by omega)
                  exact fun _ => ⟨_, _, _, rfl, rfl⟩
          ·
            by_cases hc152159 : y ≤ 154
            ·
              by_cases hc152155 : y ≤ 152
              ·
                obtain rfl : y = 152 := (by omega)
                exact fun _ => ⟨_, _, _, rfl, rfl⟩
              ·
                by_cases hc153155 : y ≤ 153
                ·
                  obtain rfl : y = 153 := (by omega)
                  exact fun _ => ⟨_, _, _, rfl, rfl⟩
                ·
                  obtain rfl : y = 154 := (by omega)
                  exact fun _ => ⟨_, _, _, rfl, rfl⟩
            ·
              by_cases hc155159 : y ≤ 156
              ·
                by_cases hc155157 : y ≤ 155
                ·
                  obtain rfl : y = 155 := (by omega)
                  exact fun _ => ⟨_, _, _, rfl, rfl⟩
                ·
                  obtain rfl : y = 156 := (by omega)
                  exact fun _ => ⟨_, _, _, rfl, rfl⟩
              ·
                by_cases hc157159 : y ≤ 157
                ·
                  obtain rfl : y = 157 := (by omega)
                  exact fun _ => ⟨_, _, _, rfl, rfl⟩
                ·
                  obtain rfl : y = 158 := (by omega)
                  exact fun _ => ⟨_, _, _, rfl, rfl⟩
    ·
      by_cases hc159213 : y ≤ 185
      ·
        by_cases hc159186 : y ≤ 171
        ·
          by_cases hc159172 : y ≤ 164
          ·
            by_cases hc159165 : y ≤ 161
            ·
              by_cases hc159162 : y ≤ 159
              ·
                obtain rfl : y = 159 := (by omega)
                exact fun _ => ⟨_, _, _, rfl, rfl⟩
              ·
                by_cases hc160162 : y ≤ 160
                ·
                  obtain rfl : y = 160 := (by omega)
                  exact fun _ => ⟨_, _, _, rfl, rfl⟩
                ·
                  obtain rfl : y = 161 := (by omega)
                  exact fun _ => ⟨_, _, _, rfl, rfl⟩
            ·
              by_cases hc162165 : y ≤ 162
              ·
                obtain rfl : y = 162 := (by omega)
                exact fun _ => ⟨_, _, _, rfl, rfl⟩
              ·
                by_cases hc163165 : y ≤ 163
                ·
                  obtain rfl : y = 163 := (by omega)
                  exact fun _ => ⟨_, _, _, rfl, rfl⟩
                ·
                  obtain rfl : y = 164 := (by omega)
                  exact fun _ => ⟨_, _, _, rfl, rfl⟩
          ·
            by_cases hc165172 : y ≤ 167
            ·
              by_cases hc165168 : y ≤ 165
              ·
                obtain rfl : y = 165 := (by omega)
                exact fun _ => ⟨_, _, _, rfl, rfl⟩
              ·
                by_cases hc166168 : y ≤ 166
                ·
                  obtain rfl : y = 166 := (by omega)
                  exact fun _ => ⟨_, _, _, rfl, rfl⟩
                ·
                  obtain rfl : y = 167 := (by omega)
                  exact fun _ => ⟨_, _, _, rfl, rfl⟩
            ·
              by_cases hc168172 : y ≤ 169
              ·
                by_cases hc168170 : y ≤ 168
                ·
                  obtain rfl : y = 168 := (by omega)
                  exact fun _ => ⟨_, _, _, rfl, rfl⟩
                ·
                  obtain rfl : y = 169 := (by omega)
                  exact fun _ => ⟨_, _, _, rfl, rfl⟩
              ·
                by_cases hc170172 : y ≤ 170
                ·
                  obtain rfl : y = 170 := (by omega)
                  exact fun _ => ⟨_, _, _, rfl, rfl⟩
                ·
                  obtain rfl : y = 171 := (by omega)
                  exact fun _ => ⟨_, _, _, rfl, rfl⟩
        ·
          by_cases hc172186 : y ≤ 178
          ·
            by_cases hc172179 : y ≤ 174
            ·
              by_cases hc172175 : y ≤ 172
              ·
                obtain rfl : y = 172 := (by omega)
                exact fun _ => ⟨_, _, _, rfl, rfl⟩
              ·
                by_cases hc173175 : y ≤ 173
                ·
                  obtain rfl : y = 173 := (by omega)
                  exact fun _ => ⟨_, _, _, rfl, rfl⟩
                ·
                  obtain rfl : y = 174 := (by omega)
                  exact fun _ => ⟨_, _, _, rfl, rfl⟩
            ·
              by_cases hc175179 : y ≤ 176
              ·
                by_cases hc175177 : y ≤ 175
                ·
                  obtain rfl : y = 175 := (by omega)
                  exact fun _ => ⟨_, _, _, rfl, rfl⟩
                ·
                  obtain rfl : y = 176 := (by omega)
                  exact fun _ => ⟨_, _, _, rfl, rfl⟩
              ·
                by_cases hc177179 : y ≤ 177
                ·
                  obtain rfl : y = 177 := (by omega)
                  exact fun _ => ⟨_, _, _, rfl, rfl⟩
                ·
                  obtain rfl : y = 178 := (by omega)
                  exact fun _ => ⟨_, _, _, rfl, rfl⟩
          ·
            by_cases hc179186 : y ≤ 181
            ·
              by_cases hc179182 : y ≤ 179
              ·
                obtain rfl : y = 179 := (by omega)
                exact fun _ => ⟨_, _, _, rfl, rfl⟩
              ·
                by_cases hc180182 : y ≤ 180
                ·
                  obtain rfl : y = 180 := (by omega)
                  exact fun _ => ⟨_, _, _, rfl, rfl⟩
                ·
                  obtain rfl : y = 181 := (by omega)
                  exact fun _ => ⟨_, _, _, rfl, rfl⟩
            ·
              by_cases hc182186 : y ≤ 183
              ·
                by_cases hc182184 : y ≤ 182
                ·
                  obtain rfl : y = 182 := (by omega)
                  exact fun _ => ⟨_, _, _, rfl, rfl⟩
                ·
                  obtain rfl : y = 183 := (by omega)
                  exact fun _ => ⟨_, _, _, rfl, rfl⟩
              ·
                by_cases hc184186 : y ≤ 184
                ·
                  obtain rfl : y = 184 := (by omega)
                  exact fun _ => ⟨_, _, _, rfl, rfl⟩
                ·
                  obtain rfl : y = 185 := (by omega)
                  exact fun _ => ⟨_, _, _, rfl, rfl⟩
      ·
        by_cases hc186213 : y ≤ 198
        ·
          by_cases hc186199 : y ≤ 191
          ·
            by_cases hc186192 : y ≤ 188
            ·
              by_cases hc186189 : y ≤ 186
              ·
                obtain rfl : y = 186 := (by omega)
                exact fun _ => ⟨_, _, _, rfl, rfl⟩
              ·
                by_cases hc187189 : y ≤ 187
                ·
                  obtain rfl : y = 187 := (by omega)
                  exact fun _ => ⟨_, _, _, rfl, rfl⟩
                ·
                  obtain rfl : y = 188 := (by omega)
                  exact fun _ => ⟨_, _, _, rfl, rfl⟩
            ·
              by_cases hc189192 : y ≤ 189
              ·
                obtain rfl : y = 189 := (by omega)
                exact fun _ => ⟨_, _, _, rfl, rfl⟩
              ·
                by_cases hc190192 : y ≤ 190
                ·
                  obtain rfl : y = 190 := (by omega)
                  exact fun h => absurd h (by decide)
                ·
                  obtain rfl : y = 191 := (by omega)
                  exact fun h => absurd h (by decide)
          ·
            by_cases hc192199 : y ≤ 194
            ·
              by_cases hc192195 : y ≤ 192
              ·
                obtain rfl : y = 192 := (by omega)
                exact fun h => absurd h (by decide)
              ·
                by_cases hc193195 : y ≤ 193
                ·
                  obtain rfl : y = 193 := (by omega)
                  exact fun h => absurd h (by decide)
                ·
                  obtain rfl : y = 194 := (by omega)
                  exact fun h => absurd h (by decide)
            ·
              by_cases hc195199 : y ≤ 196
              ·
                by_cases hc195197 : y ≤ 195
                ·
                  obtain rfl : y = 195 := (by omega)
                  exact fun h => absurd h (by decide)
                ·
                  obtain rfl : y = 196 := (by omega)
                  exact fun h => absurd h (by decide)
              ·
                by_cases hc197199 : y ≤ 197
                ·
                  obtain rfl : y = 197 := (by omega)
                  exact fun h => absurd h (by decide)
                ·
                  obtain rfl : y = 198 := (by omega)
                  exact fun h => absurd h (by decide)
        ·
          by_cases hc199213 : y ≤ 205
          ·
            by_cases hc199206 : y ≤ 201
            ·
              by_cases hc199202 : y ≤ 199
              ·
                obtain rfl : y = 199 := (by omega)
                exact fun h => absurd h (by decide)
              ·
                by_cases hc200202 : y ≤ 200
                ·
                  obtain rfl : y = 200 := (by omega)
                  exact fun h => absurd h (by decide)
                ·
                  obtain rfl : y = 201 := (by omega)
                  exact fun h => absurd h (by decide)
            ·
              by_cases hc202206 : y ≤ 203
              ·
                by_cases hc202204 : y ≤ 202
                ·
                  obtain rfl : y = 202 := (by omega)
                  exact fun h => absurd h (by decide)
                ·
                  obtain rfl : y = 203 := (by omega)
                  exact fun h => absurd h (by decide)
              ·
                by_cases hc204206 : y ≤ 204
                ·
                  obtain rfl : y = 204 := (by omega)
                  exact fun h => absurd h (by decide)
                ·
                  obtain rfl : y = 205 := (by omega)
                  exact fun h => absurd h (by decide)
          ·
            by_cases hc206213 : y ≤ 208
            ·
              by_cases hc206209 : y ≤ 206
              ·
                obtain rfl : y = 206 := (by omega)
                exact fun h => absurd h (by decide)
              ·
                by_cases hc207209 : y ≤ 207
                ·
                  obtain rfl : y = 207 := (by omega)
                  exact fun h => absurd h (by decide)
                ·
                  obtain rfl : y = 208 := (by omega)
                  exact fun h => absurd h (by decide)
            ·
              by_cases hc209213 : y ≤ 210
              ·
                by_cases hc209211 : y ≤ 209
                ·
                  obtain rfl : y = 209 := (by omega)
                  exact fun h => absurd h (by decide)
                ·
                  obtain rfl : y = 210 := (by omega)
                  exact fun h => absurd h (by decide)
              ·
                by_cases hc211213 : y ≤ 211
                ·
                  obtain rfl : y = 211 := (by omega)
                  exact fun h => absurd h (by decide)
                ·
                  obtain rfl : y = 212 := (by omega)
                  exact fun h => absurd h (by decide)
set_option maxHeartbeats 4000000 in
set_option maxRecDepth 100000 in
theorem am_in_no (y : Nat) (hy : y ≤ 212) : am_in y = false → (am_Mt y).1.name ≠ "<init>" := by
  by_cases hc213 : y ≤ 105
  ·
    by_cases hc106 : y ≤ 52
    ·
      by_cases hc53 : y ≤ 25
      ·
        by_cases hc26 : y ≤ 12
        ·
          by_cases hc13 : y ≤ 5
          ·
            by_cases hc6 : y ≤ 2
            ·
              by_cases hc3 : y ≤ 0
              ·
                obtain rfl : y = 0 := (by omega)
                exact fun _ => (by decide : ("law" : String) ≠ "<init>")
              ·
                by_cases hc1003 : y ≤ 1
                ·
                  obtain rfl : y = 1 := (by omega)
                  exact fun _ => (by decide : ("node" : String) ≠ "<init>")
                ·
                  obtain rfl : y = 2 := (by omega)
                  exact fun _ => (by decide : ("letter" : String) ≠ "<init>")
            ·
              by_cases hc3006 : y ≤ 3
              ·
                obtain rfl : y = 3 := (by omega)
                exact fun _ => (by decide : ("plain" : String) ≠ "<init>")
              ·
                by_cases hc4006 : y ≤ 4
                ·
                  obtain rfl : y = 4 := (by omega)
                  exact fun _ => (by decide : ("write" : String) ≠ "<init>")
                ·
                  obtain rfl : y = 5 := (by omega)
                  exact fun _ => (by decide : ("output" : String) ≠ "<init>")
          ·
            by_cases hc6013 : y ≤ 8
            ·
              by_cases hc6009 : y ≤ 6
              ·
                obtain rfl : y = 6 := (by omega)
                exact fun _ => (by decide : ("about" : String) ≠ "<init>")
              ·
                by_cases hc7009 : y ≤ 7
                ·
                  obtain rfl : y = 7 := (by omega)
                  exact fun h => by cases h
                ·
                  obtain rfl : y = 8 := (by omega)
                  exact fun _ => (by decide : ("feed" : String) ≠ "<init>")
            ·
              by_cases hc9013 : y ≤ 10
              ·
                by_cases hc9011 : y ≤ 9
                ·
                  obtain rfl : y = 9 := (by omega)
                  exact fun _ => (by decide : ("makeReady" : String) ≠ "<init>")
                ·
                  obtain rfl : y = 10 := (by omega)
                  exact fun _ => (by decide : ("end" : String) ≠ "<init>")
              ·
                by_cases hc11013 : y ≤ 11
                ·
                  obtain rfl : y = 11 := (by omega)
                  exact fun _ => (by decide : ("wipe" : String) ≠ "<init>")
                ·
                  obtain rfl : y = 12 := (by omega)
                  exact fun _ => (by decide : ("define" : String) ≠ "<init>")
        ·
          by_cases hc13026 : y ≤ 18
          ·
            by_cases hc13019 : y ≤ 15
            ·
              by_cases hc13016 : y ≤ 13
              ·
                obtain rfl : y = 13 := (by omega)
                exact fun _ => (by decide : ("drop" : String) ≠ "<init>")
              ·
                by_cases hc14016 : y ≤ 14
                ·
                  obtain rfl : y = 14 := (by omega)
                  exact fun _ => (by decide : ("read" : String) ≠ "<init>")
                ·
                  obtain rfl : y = 15 := (by omega)
                  exact fun _ => (by decide : ("fault" : String) ≠ "<init>")
            ·
              by_cases hc16019 : y ≤ 16
              ·
                obtain rfl : y = 16 := (by omega)
                exact fun h => by cases h
              ·
                by_cases hc17019 : y ≤ 17
                ·
                  obtain rfl : y = 17 := (by omega)
                  exact fun _ => (by decide : ("count" : String) ≠ "<init>")
                ·
                  obtain rfl : y = 18 := (by omega)
                  exact fun _ => (by decide : ("clear" : String) ≠ "<init>")
          ·
            by_cases hc19026 : y ≤ 21
            ·
              by_cases hc19022 : y ≤ 19
              ·
                obtain rfl : y = 19 := (by omega)
                exact fun _ => (by decide : ("canBeLabel" : String) ≠ "<init>")
              ·
                by_cases hc20022 : y ≤ 20
                ·
                  obtain rfl : y = 20 := (by omega)
                  exact fun _ => (by decide : ("numberOf" : String) ≠ "<init>")
                ·
                  obtain rfl : y = 21 := (by omega)
                  exact fun _ => (by decide : ("add" : String) ≠ "<init>")
            ·
              by_cases hc22026 : y ≤ 23
              ·
                by_cases hc22024 : y ≤ 22
                ·
                  obtain rfl : y = 22 := (by omega)
                  exact fun _ => (by decide : ("wantNormal" : String) ≠ "<init>")
                ·
                  obtain rfl : y = 23 := (by omega)
                  exact fun _ => (by decide : ("isWanted" : String) ≠ "<init>")
              ·
                by_cases hc24026 : y ≤ 24
                ·
                  obtain rfl : y = 24 := (by omega)
                  exact fun h => by cases h
                ·
                  obtain rfl : y = 25 := (by omega)
                  exact fun _ => (by decide : ("startOver" : String) ≠ "<init>")
      ·
        by_cases hc26053 : y ≤ 38
        ·
          by_cases hc26039 : y ≤ 31
          ·
            by_cases hc26032 : y ≤ 28
            ·
              by_cases hc26029 : y ≤ 26
              ·
                obtain rfl : y = 26 := (by omega)
                exact fun _ => (by decide : ("forgetFrom" : String) ≠ "<init>")
              ·
                by_cases hc27029 : y ≤ 27
                ·
                  obtain rfl : y = 27 := (by omega)
                  exact fun _ => (by decide : ("meet" : String) ≠ "<init>")
                ·
                  obtain rfl : y = 28 := (by omega)
                  exact fun _ => (by decide : ("killLinkBrackets" : String) ≠ "<init>")
            ·
              by_cases hc29032 : y ≤ 29
              ·
                obtain rfl : y = 29 := (by omega)
                exact fun _ => (by decide : ("close" : String) ≠ "<init>")
              ·
                by_cases hc30032 : y ≤ 30
                ·
                  obtain rfl : y = 30 := (by omega)
                  exact fun _ => (by decide : ("textFrom" : String) ≠ "<init>")
                ·
                  obtain rfl : y = 31 := (by omega)
                  exact fun _ => (by decide : ("labelledEnd" : String) ≠ "<init>")
          ·
            by_cases hc32039 : y ≤ 34
            ·
              by_cases hc32035 : y ≤ 32
              ·
                obtain rfl : y = 32 := (by omega)
                exact fun _ => (by decide : ("writtenOutEnd" : String) ≠ "<init>")
              ·
                by_cases hc33035 : y ≤ 33
                ·
                  obtain rfl : y = 33 := (by omega)
                  exact fun h => by cases h
                ·
                  obtain rfl : y = 34 := (by omega)
                  exact fun _ => (by decide : ("startOver" : String) ≠ "<init>")
            ·
              by_cases hc35039 : y ≤ 36
              ·
                by_cases hc35037 : y ≤ 35
                ·
                  obtain rfl : y = 35 := (by omega)
                  exact fun _ => (by decide : ("erase" : String) ≠ "<init>")
                ·
                  obtain rfl : y = 36 := (by omega)
                  exact fun _ => (by decide : ("hold" : String) ≠ "<init>")
              ·
                by_cases hc37039 : y ≤ 37
                ·
                  obtain rfl : y = 37 := (by omega)
                  exact fun _ => (by decide : ("addLead" : String) ≠ "<init>")
                ·
                  obtain rfl : y = 38 := (by omega)
                  exact fun _ => (by decide : ("addAddress" : String) ≠ "<init>")
        ·
          by_cases hc39053 : y ≤ 45
          ·
            by_cases hc39046 : y ≤ 41
            ·
              by_cases hc39042 : y ≤ 39
              ·
                obtain rfl : y = 39 := (by omega)
                exact fun _ => (by decide : ("tell" : String) ≠ "<init>")
              ·
                by_cases hc40042 : y ≤ 40
                ·
                  obtain rfl : y = 40 := (by omega)
                  exact fun _ => (by decide : ("letterOf" : String) ≠ "<init>")
                ·
                  obtain rfl : y = 41 := (by omega)
                  exact fun _ => (by decide : ("behind" : String) ≠ "<init>")
            ·
              by_cases hc42046 : y ≤ 43
              ·
                by_cases hc42044 : y ≤ 42
                ·
                  obtain rfl : y = 42 := (by omega)
                  exact fun h => by cases h
                ·
                  obtain rfl : y = 43 := (by omega)
                  exact fun _ => (by decide : ("forget" : String) ≠ "<init>")
              ·
                by_cases hc44046 : y ≤ 44
                ·
                  obtain rfl : y = 44 := (by omega)
                  exact fun _ => (by decide : ("count" : String) ≠ "<init>")
                ·
                  obtain rfl : y = 45 := (by omega)
                  exact fun _ => (by decide : ("has" : String) ≠ "<init>")
          ·
            by_cases hc46053 : y ≤ 48
            ·
              by_cases hc46049 : y ≤ 46
              ·
                obtain rfl : y = 46 := (by omega)
                exact fun _ => (by decide : ("build" : String) ≠ "<init>")
              ·
                by_cases hc47049 : y ≤ 47
                ·
                  obtain rfl : y = 47 := (by omega)
                  exact fun _ => (by decide : ("depthIn" : String) ≠ "<init>")
                ·
                  obtain rfl : y = 48 := (by omega)
                  exact fun _ => (by decide : ("begin" : String) ≠ "<init>")
            ·
              by_cases hc49053 : y ≤ 50
              ·
                by_cases hc49051 : y ≤ 49
                ·
                  obtain rfl : y = 49 := (by omega)
                  exact fun _ => (by decide : ("addLetter" : String) ≠ "<init>")
                ·
                  obtain rfl : y = 50 := (by omega)
                  exact fun _ => (by decide : ("addLead" : String) ≠ "<init>")
              ·
                by_cases hc51053 : y ≤ 51
                ·
                  obtain rfl : y = 51 := (by omega)
                  exact fun _ => (by decide : ("markBracket" : String) ≠ "<init>")
                ·
                  obtain rfl : y = 52 := (by omega)
                  exact fun _ => (by decide : ("stopWith" : String) ≠ "<init>")
    ·
      by_cases hc53106 : y ≤ 78
      ·
        by_cases hc53079 : y ≤ 65
        ·
          by_cases hc53066 : y ≤ 58
          ·
            by_cases hc53059 : y ≤ 55
            ·
              by_cases hc53056 : y ≤ 53
              ·
                obtain rfl : y = 53 := (by omega)
                exact fun h => by cases h
              ·
                by_cases hc54056 : y ≤ 54
                ·
                  obtain rfl : y = 54 := (by omega)
                  exact fun _ => (by decide : ("markAll" : String) ≠ "<init>")
                ·
                  obtain rfl : y = 55 := (by omega)
                  exact fun _ => (by decide : ("startOver" : String) ≠ "<init>")
            ·
              by_cases hc56059 : y ≤ 56
              ·
                obtain rfl : y = 56 := (by omega)
                exact fun _ => (by decide : ("markLineEnd" : String) ≠ "<init>")
              ·
                by_cases hc57059 : y ≤ 57
                ·
                  obtain rfl : y = 57 := (by omega)
                  exact fun _ => (by decide : ("markBackslash" : String) ≠ "<init>")
                ·
                  obtain rfl : y = 58 := (by omega)
                  exact fun _ => (by decide : ("markCoding" : String) ≠ "<init>")
          ·
            by_cases hc59066 : y ≤ 61
            ·
              by_cases hc59062 : y ≤ 59
              ·
                obtain rfl : y = 59 := (by omega)
                exact fun _ => (by decide : ("laterRow" : String) ≠ "<init>")
              ·
                by_cases hc60062 : y ≤ 60
                ·
                  obtain rfl : y = 60 := (by omega)
                  exact fun _ => (by decide : ("markAngle" : String) ≠ "<init>")
                ·
                  obtain rfl : y = 61 := (by omega)
                  exact fun _ => (by decide : ("markReference" : String) ≠ "<init>")
            ·
              by_cases hc62066 : y ≤ 63
              ·
                by_cases hc62064 : y ≤ 62
                ·
                  obtain rfl : y = 62 := (by omega)
                  exact fun h => by cases h
                ·
                  obtain rfl : y = 63 := (by omega)
                  exact fun _ => (by decide : ("endAt" : String) ≠ "<init>")
              ·
                by_cases hc64066 : y ≤ 64
                ·
                  obtain rfl : y = 64 := (by omega)
                  exact fun _ => (by decide : ("numberEnd" : String) ≠ "<init>")
                ·
                  obtain rfl : y = 65 := (by omega)
                  exact fun _ => (by decide : ("nameEnd" : String) ≠ "<init>")
        ·
          by_cases hc66079 : y ≤ 71
          ·
            by_cases hc66072 : y ≤ 68
            ·
              by_cases hc66069 : y ≤ 66
              ·
                obtain rfl : y = 66 := (by omega)
                exact fun _ => (by decide : ("addUnescaped" : String) ≠ "<init>")
              ·
                by_cases hc67069 : y ≤ 67
                ·
                  obtain rfl : y = 67 := (by omega)
                  exact fun h => by cases h
                ·
                  obtain rfl : y = 68 := (by omega)
                  exact fun _ => (by decide : ("size" : String) ≠ "<init>")
            ·
              by_cases hc69072 : y ≤ 69
              ·
                obtain rfl : y = 69 := (by omega)
                exact fun _ => (by decide : ("at" : String) ≠ "<init>")
              ·
                by_cases hc70072 : y ≤ 70
                ·
                  obtain rfl : y = 70 := (by omega)
                  exact fun _ => (by decide : ("put" : String) ≠ "<init>")
                ·
                  obtain rfl : y = 71 := (by omega)
                  exact fun _ => (by decide : ("add" : String) ≠ "<init>")
          ·
            by_cases hc72079 : y ≤ 74
            ·
              by_cases hc72075 : y ≤ 72
              ·
                obtain rfl : y = 72 := (by omega)
                exact fun _ => (by decide : ("cut" : String) ≠ "<init>")
              ·
                by_cases hc73075 : y ≤ 73
                ·
                  obtain rfl : y = 73 := (by omega)
                  exact fun _ => (by decide : ("refill" : String) ≠ "<init>")
                ·
                  obtain rfl : y = 74 := (by omega)
                  exact fun _ => (by decide : ("join" : String) ≠ "<init>")
            ·
              by_cases hc75079 : y ≤ 76
              ·
                by_cases hc75077 : y ≤ 75
                ·
                  obtain rfl : y = 75 := (by omega)
                  exact fun h => by cases h
                ·
                  obtain rfl : y = 76 := (by omega)
                  exact fun _ => (by decide : ("count" : String) ≠ "<init>")
              ·
                by_cases hc77079 : y ≤ 77
                ·
                  obtain rfl : y = 77 := (by omega)
                  exact fun _ => (by decide : ("forgetFrom" : String) ≠ "<init>")
                ·
                  obtain rfl : y = 78 := (by omega)
                  exact fun _ => (by decide : ("meet" : String) ≠ "<init>")
      ·
        by_cases hc79106 : y ≤ 91
        ·
          by_cases hc79092 : y ≤ 84
          ·
            by_cases hc79085 : y ≤ 81
            ·
              by_cases hc79082 : y ≤ 79
              ·
                obtain rfl : y = 79 := (by omega)
                exact fun _ => (by decide : ("leans" : String) ≠ "<init>")
              ·
                by_cases hc80082 : y ≤ 80
                ·
                  obtain rfl : y = 80 := (by omega)
                  exact fun _ => (by decide : ("pairFrom" : String) ≠ "<init>")
                ·
                  obtain rfl : y = 81 := (by omega)
                  exact fun _ => (by decide : ("left" : String) ≠ "<init>")
            ·
              by_cases hc82085 : y ≤ 82
              ·
                obtain rfl : y = 82 := (by omega)
                exact fun _ => (by decide : ("openerFor" : String) ≠ "<init>")
              ·
                by_cases hc83085 : y ≤ 83
                ·
                  obtain rfl : y = 83 := (by omega)
                  exact fun _ => (by decide : ("clash" : String) ≠ "<init>")
                ·
                  obtain rfl : y = 84 := (by omega)
                  exact fun _ => (by decide : ("bareTargetEnd" : String) ≠ "<init>")
          ·
            by_cases hc85092 : y ≤ 87
            ·
              by_cases hc85088 : y ≤ 85
              ·
                obtain rfl : y = 85 := (by omega)
                exact fun _ => (by decide : ("titleEnd" : String) ≠ "<init>")
              ·
                by_cases hc86088 : y ≤ 86
                ·
                  obtain rfl : y = 86 := (by omega)
                  exact fun _ => (by decide : ("addressEnd" : String) ≠ "<init>")
                ·
                  obtain rfl : y = 87 := (by omega)
                  exact fun _ => (by decide : ("mailEnd" : String) ≠ "<init>")
            ·
              by_cases hc88092 : y ≤ 89
              ·
                by_cases hc88090 : y ≤ 88
                ·
                  obtain rfl : y = 88 := (by omega)
                  exact fun _ => (by decide : ("mailRowEnd" : String) ≠ "<init>")
                ·
                  obtain rfl : y = 89 := (by omega)
                  exact fun _ => (by decide : ("isRaw" : String) ≠ "<init>")
              ·
                by_cases hc90092 : y ≤ 90
                ·
                  obtain rfl : y = 90 := (by omega)
                  exact fun _ => (by decide : ("laterPlaceOf" : String) ≠ "<init>")
                ·
                  obtain rfl : y = 91 := (by omega)
                  exact fun h => by cases h
        ·
          by_cases hc92106 : y ≤ 98
          ·
            by_cases hc92099 : y ≤ 94
            ·
              by_cases hc92095 : y ≤ 92
              ·
                obtain rfl : y = 92 := (by omega)
                exact fun _ => (by decide : ("isEscape" : String) ≠ "<init>")
              ·
                by_cases hc93095 : y ≤ 93
                ·
                  obtain rfl : y = 93 := (by omega)
                  exact fun _ => (by decide : ("sameEnd" : String) ≠ "<init>")
                ·
                  obtain rfl : y = 94 := (by omega)
                  exact fun _ => (by decide : ("gapEnd" : String) ≠ "<init>")
            ·
              by_cases hc95099 : y ≤ 96
              ·
                by_cases hc95097 : y ≤ 95
                ·
                  obtain rfl : y = 95 := (by omega)
                  exact fun _ => (by decide : ("spacesEnd" : String) ≠ "<init>")
                ·
                  obtain rfl : y = 96 := (by omega)
                  exact fun _ => (by decide : ("labelStop" : String) ≠ "<init>")
              ·
                by_cases hc97099 : y ≤ 97
                ·
                  obtain rfl : y = 97 := (by omega)
                  exact fun _ => (by decide : ("isLabelText" : String) ≠ "<init>")
                ·
                  obtain rfl : y = 98 := (by omega)
                  exact fun _ => (by decide : ("isAllWhite" : String) ≠ "<init>")
          ·
            by_cases hc99106 : y ≤ 101
            ·
              by_cases hc99102 : y ≤ 99
              ·
                obtain rfl : y = 99 := (by omega)
                exact fun _ => (by decide : ("angleTargetEnd" : String) ≠ "<init>")
              ·
                by_cases hc100102 : y ≤ 100
                ·
                  obtain rfl : y = 100 := (by omega)
                  exact fun _ => (by decide : ("insteadOf" : String) ≠ "<init>")
                ·
                  obtain rfl : y = 101 := (by omega)
                  exact fun _ => (by decide : ("say" : String) ≠ "<init>")
            ·
              by_cases hc102106 : y ≤ 103
              ·
                by_cases hc102104 : y ≤ 102
                ·
                  obtain rfl : y = 102 := (by omega)
                  exact fun h => by cases h
                ·
                  obtain rfl : y = 103 := (by omega)
                  exact fun _ => (by decide : ("makePlain" : String) ≠ "<init>")
              ·
                by_cases hc104106 : y ≤ 104
                ·
                  obtain rfl : y = 104 := (by omega)
                  exact fun _ => (by decide : ("makeWritten" : String) ≠ "<init>")
                ·
                  obtain rfl : y = 105 := (by omega)
                  exact fun _ => (by decide : ("closeDownTo" : String) ≠ "<init>")
  ·
    by_cases hc106213 : y ≤ 158
    ·
      by_cases hc106159 : y ≤ 131
      ·
        by_cases hc106132 : y ≤ 118
        ·
          by_cases hc106119 : y ≤ 111
          ·
            by_cases hc106112 : y ≤ 108
            ·
              by_cases hc106109 : y ≤ 106
              ·
                obtain rfl : y = 106 := (by omega)
                exact fun _ => (by decide : ("begin" : String) ≠ "<init>")
              ·
                by_cases hc107109 : y ≤ 107
                ·
                  obtain rfl : y = 107 := (by omega)
                  exact fun _ => (by decide : ("addTarget" : String) ≠ "<init>")
                ·
                  obtain rfl : y = 108 := (by omega)
                  exact fun _ => (by decide : ("addTitle" : String) ≠ "<init>")
            ·
              by_cases hc109112 : y ≤ 109
              ·
                obtain rfl : y = 109 := (by omega)
                exact fun _ => (by decide : ("addPlain" : String) ≠ "<init>")
              ·
                by_cases hc110112 : y ≤ 110
                ·
                  obtain rfl : y = 110 := (by omega)
                  exact fun _ => (by decide : ("addLetters" : String) ≠ "<init>")
                ·
                  obtain rfl : y = 111 := (by omega)
                  exact fun _ => (by decide : ("isPair" : String) ≠ "<init>")
          ·
            by_cases hc112119 : y ≤ 114
            ·
              by_cases hc112115 : y ≤ 112
              ·
                obtain rfl : y = 112 := (by omega)
                exact fun _ => (by decide : ("hexOf" : String) ≠ "<init>")
              ·
                by_cases hc113115 : y ≤ 113
                ·
                  obtain rfl : y = 113 := (by omega)
                  exact fun _ => (by decide : ("isReference" : String) ≠ "<init>")
                ·
                  obtain rfl : y = 114 := (by omega)
                  exact fun _ => (by decide : ("gap" : String) ≠ "<init>")
            ·
              by_cases hc115119 : y ≤ 116
              ·
                by_cases hc115117 : y ≤ 115
                ·
                  obtain rfl : y = 115 := (by omega)
                  exact fun _ => (by decide : ("isLabelText" : String) ≠ "<init>")
                ·
                  obtain rfl : y = 116 := (by omega)
                  exact fun _ => (by decide : ("isLabel" : String) ≠ "<init>")
              ·
                by_cases hc117119 : y ≤ 117
                ·
                  obtain rfl : y = 117 := (by omega)
                  exact fun _ => (by decide : ("isTarget" : String) ≠ "<init>")
                ·
                  obtain rfl : y = 118 := (by omega)
                  exact fun _ => (by decide : ("isTitle" : String) ≠ "<init>")
        ·
          by_cases hc119132 : y ≤ 124
          ·
            by_cases hc119125 : y ≤ 121
            ·
              by_cases hc119122 : y ≤ 119
              ·
                obtain rfl : y = 119 := (by omega)
                exact fun _ => (by decide : ("isRound" : String) ≠ "<init>")
              ·
                by_cases hc120122 : y ≤ 120
                ·
                  obtain rfl : y = 120 := (by omega)
                  exact fun _ => (by decide : ("unescape" : String) ≠ "<init>")
                ·
                  obtain rfl : y = 121 := (by omega)
                  exact fun h => by cases h
            ·
              by_cases hc122125 : y ≤ 122
              ·
                obtain rfl : y = 122 := (by omega)
                exact fun _ => (by decide : ("keep" : String) ≠ "<init>")
              ·
                by_cases hc123125 : y ≤ 123
                ·
                  obtain rfl : y = 123 := (by omega)
                  exact fun _ => (by decide : ("makeNormal" : String) ≠ "<init>")
                ·
                  obtain rfl : y = 124 := (by omega)
                  exact fun _ => (by decide : ("defined" : String) ≠ "<init>")
          ·
            by_cases hc125132 : y ≤ 127
            ·
              by_cases hc125128 : y ≤ 125
              ·
                obtain rfl : y = 125 := (by omega)
                exact fun _ => (by decide : ("item" : String) ≠ "<init>")
              ·
                by_cases hc126128 : y ≤ 126
                ·
                  obtain rfl : y = 126 := (by omega)
                  exact fun _ => (by decide : ("put" : String) ≠ "<init>")
                ·
                  obtain rfl : y = 127 := (by omega)
                  exact fun _ => (by decide : ("append" : String) ≠ "<init>")
            ·
              by_cases hc128132 : y ≤ 129
              ·
                by_cases hc128130 : y ≤ 128
                ·
                  obtain rfl : y = 128 := (by omega)
                  exact fun _ => (by decide : ("say" : String) ≠ "<init>")
                ·
                  obtain rfl : y = 129 := (by omega)
                  exact fun _ => (by decide : ("dropLast" : String) ≠ "<init>")
              ·
                by_cases hc130132 : y ≤ 130
                ·
                  obtain rfl : y = 130 := (by omega)
                  exact fun _ => (by decide : ("isBoth" : String) ≠ "<init>")
                ·
                  obtain rfl : y = 131 := (by omega)
                  exact fun _ => (by decide : ("clashes" : String) ≠ "<init>")
      ·
        by_cases hc132159 : y ≤ 144
        ·
          by_cases hc132145 : y ≤ 137
          ·
            by_cases hc132138 : y ≤ 134
            ·
              by_cases hc132135 : y ≤ 132
              ·
                obtain rfl : y = 132 := (by omega)
                exact fun _ => (by decide : ("thrown" : String) ≠ "<init>")
              ·
                by_cases hc133135 : y ≤ 133
                ·
                  obtain rfl : y = 133 := (by omega)
                  exact fun _ => (by decide : ("opener" : String) ≠ "<init>")
                ·
                  obtain rfl : y = 134 := (by omega)
                  exact fun _ => (by decide : ("pair" : String) ≠ "<init>")
            ·
              by_cases hc135138 : y ≤ 135
              ·
                obtain rfl : y = 135 := (by omega)
                exact fun _ => (by decide : ("isBlank" : String) ≠ "<init>")
              ·
                by_cases hc136138 : y ≤ 136
                ·
                  obtain rfl : y = 136 := (by omega)
                  exact fun _ => (by decide : ("leans" : String) ≠ "<init>")
                ·
                  obtain rfl : y = 137 := (by omega)
                  exact fun _ => (by decide : ("run" : String) ≠ "<init>")
          ·
            by_cases hc138145 : y ≤ 140
            ·
              by_cases hc138141 : y ≤ 138
              ·
                obtain rfl : y = 138 := (by omega)
                exact fun _ => (by decide : ("kill" : String) ≠ "<init>")
              ·
                by_cases hc139141 : y ≤ 139
                ·
                  obtain rfl : y = 139 := (by omega)
                  exact fun _ => (by decide : ("bracket" : String) ≠ "<init>")
                ·
                  obtain rfl : y = 140 := (by omega)
                  exact fun _ => (by decide : ("close" : String) ≠ "<init>")
            ·
              by_cases hc141145 : y ≤ 142
              ·
                by_cases hc141143 : y ≤ 141
                ·
                  obtain rfl : y = 141 := (by omega)
                  exact fun _ => (by decide : ("isMail" : String) ≠ "<init>")
                ·
                  obtain rfl : y = 142 := (by omega)
                  exact fun _ => (by decide : ("address" : String) ≠ "<init>")
              ·
                by_cases hc143145 : y ≤ 143
                ·
                  obtain rfl : y = 143 := (by omega)
                  exact fun _ => (by decide : ("isWhite" : String) ≠ "<init>")
                ·
                  obtain rfl : y = 144 := (by omega)
                  exact fun _ => (by decide : ("isRaw" : String) ≠ "<init>")
        ·
          by_cases hc145159 : y ≤ 151
          ·
            by_cases hc145152 : y ≤ 147
            ·
              by_cases hc145148 : y ≤ 145
              ·
                obtain rfl : y = 145 := (by omega)
                exact fun _ => (by decide : ("angle" : String) ≠ "<init>")
              ·
                by_cases hc146148 : y ≤ 146
                ·
                  obtain rfl : y = 146 := (by omega)
                  exact fun _ => (by decide : ("code" : String) ≠ "<init>")
                ·
                  obtain rfl : y = 147 := (by omega)
                  exact fun _ => (by decide : ("line" : String) ≠ "<init>")
            ·
              by_cases hc148152 : y ≤ 149
              ·
                by_cases hc148150 : y ≤ 148
                ·
                  obtain rfl : y = 148 := (by omega)
                  exact fun _ => (by decide : ("fail" : String) ≠ "<init>")
                ·
                  obtain rfl : y = 149 := (by omega)
                  exact fun _ => (by decide : ("part" : String) ≠ "<init>")
              ·
                by_cases hc150152 : y ≤ 150
                ·
                  obtain rfl : y = 150 := (by omega)
                  exact fun _ => (by decide : ("born" : String) ≠ "<init>")
                ·
                  obtain rfl : y = 151 := (by omega)
                  exact fun _ => (by decide : ("spell" : String) ≠ "<init>")
          ·
            by_cases hc152159 : y ≤ 154
            ·
              by_cases hc152155 : y ≤ 152
              ·
                obtain rfl : y = 152 := (by omega)
                exact fun _ => (by decide : ("gather" : String) ≠ "<init>")
              ·
                by_cases hc153155 : y ≤ 153
                ·
                  obtain rfl : y = 153 := (by omega)
                  exact fun _ => (by decide : ("feed" : String) ≠ "<init>")
                ·
                  obtain rfl : y = 154 := (by omega)
                  exact fun _ => (by decide : ("isLetter" : String) ≠ "<init>")
            ·
              by_cases hc155159 : y ≤ 156
              ·
                by_cases hc155157 : y ≤ 155
                ·
                  obtain rfl : y = 155 := (by omega)
                  exact fun _ => (by decide : ("end" : String) ≠ "<init>")
                ·
                  obtain rfl : y = 156 := (by omega)
                  exact fun _ => (by decide : ("wipe" : String) ≠ "<init>")
              ·
                by_cases hc157159 : y ≤ 157
                ·
                  obtain rfl : y = 157 := (by omega)
                  exact fun _ => (by decide : ("define" : String) ≠ "<init>")
                ·
                  obtain rfl : y = 158 := (by omega)
                  exact fun _ => (by decide : ("drop" : String) ≠ "<init>")
    ·
      by_cases hc159213 : y ≤ 185
      ·
        by_cases hc159186 : y ≤ 171
        ·
          by_cases hc159172 : y ≤ 164
          ·
            by_cases hc159165 : y ≤ 161
            ·
              by_cases hc159162 : y ≤ 159
              ·
                obtain rfl : y = 159 := (by omega)
                exact fun _ => (by decide : ("read" : String) ≠ "<init>")
              ·
                by_cases hc160162 : y ≤ 160
                ·
                  obtain rfl : y = 160 := (by omega)
                  exact fun _ => (by decide : ("fault" : String) ≠ "<init>")
                ·
                  obtain rfl : y = 161 := (by omega)
                  exact fun _ => (by decide : ("isNode" : String) ≠ "<init>")
            ·
              by_cases hc162165 : y ≤ 162
              ·
                obtain rfl : y = 162 := (by omega)
                exact fun _ => (by decide : ("node" : String) ≠ "<init>")
              ·
                by_cases hc163165 : y ≤ 163
                ·
                  obtain rfl : y = 163 := (by omega)
                  exact fun _ => (by decide : ("letter" : String) ≠ "<init>")
                ·
                  obtain rfl : y = 164 := (by omega)
                  exact fun _ => (by decide : ("send" : String) ≠ "<init>")
          ·
            by_cases hc165172 : y ≤ 167
            ·
              by_cases hc165168 : y ≤ 165
              ·
                obtain rfl : y = 165 := (by omega)
                exact fun _ => (by decide : ("isDigit" : String) ≠ "<init>")
              ·
                by_cases hc166168 : y ≤ 166
                ·
                  obtain rfl : y = 166 := (by omega)
                  exact fun _ => (by decide : ("tell" : String) ≠ "<init>")
                ·
                  obtain rfl : y = 167 := (by omega)
                  exact fun _ => (by decide : ("tellRow" : String) ≠ "<init>")
            ·
              by_cases hc168172 : y ≤ 169
              ·
                by_cases hc168170 : y ≤ 168
                ·
                  obtain rfl : y = 168 := (by omega)
                  exact fun _ => (by decide : ("beyond" : String) ≠ "<init>")
                ·
                  obtain rfl : y = 169 := (by omega)
                  exact fun _ => (by decide : ("tellPlain" : String) ≠ "<init>")
              ·
                by_cases hc170172 : y ≤ 170
                ·
                  obtain rfl : y = 170 := (by omega)
                  exact fun _ => (by decide : ("plain" : String) ≠ "<init>")
                ·
                  obtain rfl : y = 171 := (by omega)
                  exact fun _ => (by decide : ("word" : String) ≠ "<init>")
        ·
          by_cases hc172186 : y ≤ 178
          ·
            by_cases hc172179 : y ≤ 174
            ·
              by_cases hc172175 : y ≤ 172
              ·
                obtain rfl : y = 172 := (by omega)
                exact fun _ => (by decide : ("number" : String) ≠ "<init>")
              ·
                by_cases hc173175 : y ≤ 173
                ·
                  obtain rfl : y = 173 := (by omega)
                  exact fun _ => (by decide : ("tellTarget" : String) ≠ "<init>")
                ·
                  obtain rfl : y = 174 := (by omega)
                  exact fun _ => (by decide : ("tellTitle" : String) ≠ "<init>")
            ·
              by_cases hc175179 : y ≤ 176
              ·
                by_cases hc175177 : y ≤ 175
                ·
                  obtain rfl : y = 175 := (by omega)
                  exact fun _ => (by decide : ("begin" : String) ≠ "<init>")
                ·
                  obtain rfl : y = 176 := (by omega)
                  exact fun _ => (by decide : ("isSign" : String) ≠ "<init>")
              ·
                by_cases hc177179 : y ≤ 177
                ·
                  obtain rfl : y = 177 := (by omega)
                  exact fun _ => (by decide : ("finish" : String) ≠ "<init>")
                ·
                  obtain rfl : y = 178 := (by omega)
                  exact fun _ => (by decide : ("write" : String) ≠ "<init>")
          ·
            by_cases hc179186 : y ≤ 181
            ·
              by_cases hc179182 : y ≤ 179
              ·
                obtain rfl : y = 179 := (by omega)
                exact fun _ => (by decide : ("output" : String) ≠ "<init>")
              ·
                by_cases hc180182 : y ≤ 180
                ·
                  obtain rfl : y = 180 := (by omega)
                  exact fun _ => (by decide : ("about" : String) ≠ "<init>")
                ·
                  obtain rfl : y = 181 := (by omega)
                  exact fun _ => (by decide : ("isPunctuation" : String) ≠ "<init>")
            ·
              by_cases hc182186 : y ≤ 183
              ·
                by_cases hc182184 : y ≤ 182
                ·
                  obtain rfl : y = 182 := (by omega)
                  exact fun _ => (by decide : ("isForbidden" : String) ≠ "<init>")
                ·
                  obtain rfl : y = 183 := (by omega)
                  exact fun _ => (by decide : ("at" : String) ≠ "<init>")
              ·
                by_cases hc184186 : y ≤ 184
                ·
                  obtain rfl : y = 184 := (by omega)
                  exact fun _ => (by decide : ("coder" : String) ≠ "<init>")
                ·
                  obtain rfl : y = 185 := (by omega)
                  exact fun _ => (by decide : ("isLatin1" : String) ≠ "<init>")
      ·
        by_cases hc186213 : y ≤ 198
        ·
          by_cases hc186199 : y ≤ 191
          ·
            by_cases hc186192 : y ≤ 188
            ·
              by_cases hc186189 : y ≤ 186
              ·
                obtain rfl : y = 186 := (by omega)
                exact fun _ => (by decide : ("checkIndex" : String) ≠ "<init>")
              ·
                by_cases hc187189 : y ≤ 187
                ·
                  obtain rfl : y = 187 := (by omega)
                  exact fun _ => (by decide : ("length" : String) ≠ "<init>")
                ·
                  obtain rfl : y = 188 := (by omega)
                  exact fun _ => (by decide : ("isEmpty" : String) ≠ "<init>")
            ·
              by_cases hc189192 : y ≤ 189
              ·
                obtain rfl : y = 189 := (by omega)
                exact fun _ => (by decide : ("charAt" : String) ≠ "<init>")
              ·
                by_cases hc190192 : y ≤ 190
                ·
                  obtain rfl : y = 190 := (by omega)
                  exact fun _ => (by decide : ("isMailSign" : String) ≠ "<init>")
                ·
                  obtain rfl : y = 191 := (by omega)
                  exact fun _ => (by decide : ("isAddressSign" : String) ≠ "<init>")
          ·
            by_cases hc192199 : y ≤ 194
            ·
              by_cases hc192195 : y ≤ 192
              ·
                obtain rfl : y = 192 := (by omega)
                exact fun _ => (by decide : ("small" : String) ≠ "<init>")
              ·
                by_cases hc193195 : y ≤ 193
                ·
                  obtain rfl : y = 193 := (by omega)
                  exact fun _ => (by decide : ("worth" : String) ≠ "<init>")
                ·
                  obtain rfl : y = 194 := (by omega)
                  exact fun _ => (by decide : ("isWhite" : String) ≠ "<init>")
            ·
              by_cases hc195199 : y ≤ 196
              ·
                by_cases hc195197 : y ≤ 195
                ·
                  obtain rfl : y = 195 := (by omega)
                  exact fun _ => (by decide : ("isBlank" : String) ≠ "<init>")
                ·
                  obtain rfl : y = 196 := (by omega)
                  exact fun _ => (by decide : ("isLetter" : String) ≠ "<init>")
              ·
                by_cases hc197199 : y ≤ 197
                ·
                  obtain rfl : y = 197 := (by omega)
                  exact fun _ => (by decide : ("isLetterOrDigit" : String) ≠ "<init>")
                ·
                  obtain rfl : y = 198 := (by omega)
                  exact fun _ => (by decide : ("isAsciiPunctuation" : String) ≠ "<init>")
        ·
          by_cases hc199213 : y ≤ 205
          ·
            by_cases hc199206 : y ≤ 201
            ·
              by_cases hc199202 : y ≤ 199
              ·
                obtain rfl : y = 199 := (by omega)
                exact fun _ => (by decide : ("isPunctuation" : String) ≠ "<init>")
              ·
                by_cases hc200202 : y ≤ 200
                ·
                  obtain rfl : y = 200 := (by omega)
                  exact fun _ => (by decide : ("isForbidden" : String) ≠ "<init>")
                ·
                  obtain rfl : y = 201 := (by omega)
                  exact fun _ => (by decide : ("isSchemeSign" : String) ≠ "<init>")
            ·
              by_cases hc202206 : y ≤ 203
              ·
                by_cases hc202204 : y ≤ 202
                ·
                  obtain rfl : y = 202 := (by omega)
                  exact fun _ => (by decide : ("define" : String) ≠ "<init>")
                ·
                  obtain rfl : y = 203 := (by omega)
                  exact fun _ => (by decide : ("read" : String) ≠ "<init>")
              ·
                by_cases hc204206 : y ≤ 204
                ·
                  obtain rfl : y = 204 := (by omega)
                  exact fun _ => (by decide : ("plain" : String) ≠ "<init>")
                ·
                  obtain rfl : y = 205 := (by omega)
                  exact fun _ => (by decide : ("write" : String) ≠ "<init>")
          ·
            by_cases hc206213 : y ≤ 208
            ·
              by_cases hc206209 : y ≤ 206
              ·
                obtain rfl : y = 206 := (by omega)
                exact fun _ => (by decide : ("max" : String) ≠ "<init>")
              ·
                by_cases hc207209 : y ≤ 207
                ·
                  obtain rfl : y = 207 := (by omega)
                  exact fun _ => (by decide : ("min" : String) ≠ "<init>")
                ·
                  obtain rfl : y = 208 := (by omega)
                  exact fun _ => (by decide : ("charAt" : String) ≠ "<init>")
            ·
              by_cases hc209213 : y ≤ 210
              ·
                by_cases hc209211 : y ≤ 209
                ·
                  obtain rfl : y = 209 := (by omega)
                  exact fun _ => (by decide : ("fill" : String) ≠ "<init>")
                ·
                  obtain rfl : y = 210 := (by omega)
                  exact fun _ => (by decide : ("copyOf" : String) ≠ "<init>")
              ·
                by_cases hc211213 : y ≤ 211
                ·
                  obtain rfl : y = 211 := (by omega)
                  exact fun _ => (by decide : ("rangeCheck" : String) ≠ "<init>")
                ·
                  obtain rfl : y = 212 := (by omega)
                  exact fun _ => (by decide : ("checkIndex" : String) ≠ "<init>")
/-- the class of the object at a place -/
def zr_ci (id : Nat) : Option Nat := match zr_ob (fun _ => 0) id with
  | some v => some v.1
  | none => bif zr_rows.contains id then some 7 else bif Nat.beq id zr_ref then some 11 else bif Nat.ble 2 id && Nat.ble id 55 && Nat.beq (id % 2) 0 then some 12 else none
theorem zr_ob_any {sc sc' : Nat → Int32} {id : Nat} {v : Nat × List Value} (h : zr_ob sc id = some v) : ∃ fs, zr_ob sc' id = some (v.1, fs) := by
  unfold zr_ob at h
  split at h <;> first | (cases h; exact ⟨_, rfl⟩) | (cases h; done)
theorem zr_ci_ok {sx : Nat × (Nat → Int32)} {Z : zr_Z} {B : Nat} {h : am_H} (P : zr_P sx Z B h) {id ci : Nat} (hc : zr_ci id = some ci) : ∃ fs, h.1 id = some (.inr (ci, fs)) := by
  obtain ⟨ga, gn, gf, g1, g2, g3, g4, g5, g6, g7, g8, g9⟩ := P
  unfold zr_ci at hc
  split at hc
  · rename_i v hv
    cases hc
    obtain ⟨fs, hfs⟩ := zr_ob_any (sc' := Z.2.1) hv
    exact ⟨fs, g1 id _ hfs⟩
  · cases e1 : zr_rows.contains id with
    | true =>
      rw [e1] at hc
      cases hc
      exact ⟨_, (g2 id (List.contains_iff_mem.mp e1)).1⟩
    | false =>
      rw [e1] at hc
      cases e2 : Nat.beq id zr_ref with
      | true =>
        rw [e2] at hc
        cases hc
        rw [Nat.eq_of_beq_eq_true e2]
        exact ⟨_, g4⟩
      | false =>
        rw [e2] at hc
        cases e3 : Nat.ble 2 id && Nat.ble id 55 && Nat.beq (id % 2) 0 with
        | true =>
          rw [e3] at hc
          cases hc
          simp only [Bool.and_eq_true] at e3
          have q1 := Nat.le_of_ble_eq_true e3.1.1
          have q2 := Nat.le_of_ble_eq_true e3.1.2
          have q3 := Nat.eq_of_beq_eq_true e3.2
          have := (g7.2.2 ((id - 2) / 2) (by omega)).1
          rw [show 2 + 2 * ((id - 2) / 2) = id by omega] at this
          exact ⟨_, this⟩
        | false => rw [e3] at hc; cases hc
