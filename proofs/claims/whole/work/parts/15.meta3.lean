theorem am_isM_le {y : Nat} (h : am_isM y = true) : y ≤ 212 := by
  unfold am_isM at h
  simp only [Bool.and_eq_true] at h
  exact Nat.le_of_ble_eq_true h.1.1.1.1.1.1.1
set_option maxHeartbeats 4000000 in
set_option maxRecDepth 100000 in
theorem am_m_ok (y : Nat) (hy : am_isM y = true) : am_mright (am_Mt y) (am_np y) := by
  have hy1 := am_isM_le hy
  by_cases hc213 : y ≤ 105
  ·
    by_cases hc106 : y ≤ 52
    ·
      by_cases hc53 : y ≤ 25
      ·
        by_cases hc26 : y ≤ 12
        ·
          by_cases hc13 : y ≤ 5
          ·
            by_cases hc6 : y ≤ 2
            ·
              by_cases hc3 : y ≤ 0
              ·
                obtain rfl : y = 0 := (by omega)
                cases hy
              ·
                by_cases hc1003 : y ≤ 1
                ·
                  obtain rfl : y = 1 := (by omega)
                  exact am_mk1
                ·
                  obtain rfl : y = 2 := (by omega)
                  exact am_mk2
            ·
              by_cases hc3006 : y ≤ 3
              ·
                obtain rfl : y = 3 := (by omega)
                exact am_mk3
              ·
                by_cases hc4006 : y ≤ 4
                ·
                  obtain rfl : y = 4 := (by omega)
                  exact am_mk4
                ·
                  obtain rfl : y = 5 := (by omega)
                  exact am_mk5
          ·
            by_cases hc6013 : y ≤ 8
            ·
              by_cases hc6009 : y ≤ 6
              ·
                obtain rfl : y = 6 := (by omega)
                exact am_mk6
              ·
                by_cases hc7009 : y ≤ 7
                ·
                  obtain rfl : y = 7 := (by omega)
                  exact am_mk7
                ·
                  obtain rfl : y = 8 := (by omega)
                  exact am_mk8
            ·
              by_cases hc9013 : y ≤ 10
              ·
                by_cases hc9011 : y ≤ 9
                ·
                  obtain rfl : y = 9 := (by omega)
                  exact am_mk9
                ·
                  obtain rfl : y = 10 := (by omega)
                  exact am_mk10
              ·
                by_cases hc11013 : y ≤ 11
                ·
                  obtain rfl : y = 11 := (by omega)
                  exact am_mk11
                ·
                  obtain rfl : y = 12 := (by omega)
                  exact am_mk12
        ·
          by_cases hc13026 : y ≤ 18
          ·
            by_cases hc13019 : y ≤ 15
            ·
              by_cases hc13016 : y ≤ 13
              ·
                obtain rfl : y = 13 := (by omega)
                exact am_mk13
              ·
                by_cases hc14016 : y ≤ 14
                ·
                  obtain rfl : y = 14 := (by omega)
                  exact am_mk14
                ·
                  obtain rfl : y = 15 := (by omega)
                  exact am_mk15
            ·
              by_cases hc16019 : y ≤ 16
              ·
                obtain rfl : y = 16 := (by omega)
                exact am_mk16
              ·
                by_cases hc17019 : y ≤ 17
                ·
                  obtain rfl : y = 17 := (by omega)
                  exact am_mk17
                ·
                  obtain rfl : y = 18 := (by omega)
                  exact am_mk18
          ·
            by_cases hc19026 : y ≤ 21
            ·
              by_cases hc19022 : y ≤ 19
              ·
                obtain rfl : y = 19 := (by omega)
                exact am_mk19
              ·
                by_cases hc20022 : y ≤ 20
                ·
                  obtain rfl : y = 20 := (by omega)
                  exact am_mk20
                ·
                  obtain rfl : y = 21 := (by omega)
                  exact am_mk21
            ·
              by_cases hc22026 : y ≤ 23
              ·
                by_cases hc22024 : y ≤ 22
                ·
                  obtain rfl : y = 22 := (by omega)
                  exact am_mk22
                ·
                  obtain rfl : y = 23 := (by omega)
                  exact am_mk23
              ·
                by_cases hc24026 : y ≤ 24
                ·
                  obtain rfl : y = 24 := (by omega)
                  exact am_mk24
                ·
                  obtain rfl : y = 25 := (by omega)
                  exact am_mk25
      ·
        by_cases hc26053 : y ≤ 38
        ·
          by_cases hc26039 : y ≤ 31
          ·
            by_cases hc26032 : y ≤ 28
            ·
              by_cases hc26029 : y ≤ 26
              ·
                obtain rfl : y = 26 := (by omega)
                exact am_mk26
              ·
                by_cases hc27029 : y ≤ 27
                ·
                  obtain rfl : y = 27 := (by omega)
                  exact am_mk27
                ·
                  obtain rfl : y = 28 := (by omega)
                  exact am_mk28
            ·
              by_cases hc29032 : y ≤ 29
              ·
                obtain rfl : y = 29 := (by omega)
                exact am_mk29
              ·
                by_cases hc30032 : y ≤ 30
                ·
                  obtain rfl : y = 30 := (by omega)
                  exact am_mk30
                ·
                  obtain rfl : y = 31 := (by omega)
                  exact am_mk31
          ·
            by_cases hc32039 : y ≤ 34
            ·
              by_cases hc32035 : y ≤ 32
              ·
                obtain rfl : y = 32 := (by omega)
                exact am_mk32
              ·
                by_cases hc33035 : y ≤ 33
                ·
                  obtain rfl : y = 33 := (by omega)
                  exact am_mk33
                ·
                  obtain rfl : y = 34 := (by omega)
                  exact am_mk34
            ·
              by_cases hc35039 : y ≤ 36
              ·
                by_cases hc35037 : y ≤ 35
                ·
                  obtain rfl : y = 35 := (by omega)
                  exact am_mk35
                ·
                  obtain rfl : y = 36 := (by omega)
                  exact am_mk36
              ·
                by_cases hc37039 : y ≤ 37
                ·
                  obtain rfl : y = 37 := (by omega)
                  exact am_mk37
                ·
                  obtain rfl : y = 38 := (by omega)
                  exact am_mk38
        ·
          by_cases hc39053 : y ≤ 45
          ·
            by_cases hc39046 : y ≤ 41
            ·
              by_cases hc39042 : y ≤ 39
              ·
                obtain rfl : y = 39 := (by omega)
                exact am_mk39
              ·
                by_cases hc40042 : y ≤ 40
                ·
                  obtain rfl : y = 40 := (by omega)
                  exact am_mk40
                ·
                  obtain rfl : y = 41 := (by omega)
                  exact am_mk41
            ·
              by_cases hc42046 : y ≤ 43
              ·
                by_cases hc42044 : y ≤ 42
                ·
                  obtain rfl : y = 42 := (by omega)
                  exact am_mk42
                ·
                  obtain rfl : y = 43 := (by omega)
                  exact am_mk43
              ·
                by_cases hc44046 : y ≤ 44
                ·
                  obtain rfl : y = 44 := (by omega)
                  exact am_mk44
                ·
                  obtain rfl : y = 45 := (by omega)
                  exact am_mk45
          ·
            by_cases hc46053 : y ≤ 48
            ·
              by_cases hc46049 : y ≤ 46
              ·
                obtain rfl : y = 46 := (by omega)
                exact am_mk46
              ·
                by_cases hc47049 : y ≤ 47
                ·
                  obtain rfl : y = 47 := (by omega)
                  exact am_mk47
                ·
                  obtain rfl : y = 48 := (by omega)
                  exact am_mk48
            ·
              by_cases hc49053 : y ≤ 50
              ·
                by_cases hc49051 : y ≤ 49
                ·
                  obtain rfl : y = 49 := (by omega)
                  exact am_mk49
                ·
                  obtain rfl : y = 50 := (by omega)
                  exact am_mk50
              ·
                by_cases hc51053 : y ≤ 51
                ·
                  obtain rfl : y = 51 := (by omega)
                  exact am_mk51
                ·
                  obtain rfl : y = 52 := (by omega)
                  exact am_mk52
    ·
      by_cases hc53106 : y ≤ 78
      ·
        by_cases hc53079 : y ≤ 65
        ·
          by_cases hc53066 : y ≤ 58
          ·
            by_cases hc53059 : y ≤ 55
            ·
              by_cases hc53056 : y ≤ 53
              ·
                obtain rfl : y = 53 := (by omega)
                exact am_mk53
              ·
                by_cases hc54056 : y ≤ 54
                ·
                  obtain rfl : y = 54 := (by omega)
                  exact am_mk54
                ·
                  obtain rfl : y = 55 := (by omega)
                  exact am_mk55
            ·
              by_cases hc56059 : y ≤ 56
              ·
                obtain rfl : y = 56 := (by omega)
                exact am_mk56
              ·
                by_cases hc57059 : y ≤ 57
                ·
                  obtain rfl : y = 57 := (by omega)
                  exact am_mk57
                ·
                  obtain rfl : y = 58 := (by omega)
                  exact am_mk58
          ·
            by_cases hc59066 : y ≤ 61
            ·
              by_cases hc59062 : y ≤ 59
              ·
                obtain rfl : y = 59 := (by omega)
                exact am_mk59
              ·
                by_cases hc60062 : y ≤ 60
                ·
                  obtain rfl : y = 60 := (by omega)
                  exact am_mk60
                ·
                  obtain rfl : y = 61 := (by omega)
                  exact am_mk61
            ·
              by_cases hc62066 : y ≤ 63
              ·
                by_cases hc62064 : y ≤ 62
                ·
                  obtain rfl : y = 62 := (by omega)
                  exact am_mk62
                ·
                  obtain rfl : y = 63 := (by omega)
                  exact am_mk63
              ·
                by_cases hc64066 : y ≤ 64
                ·
                  obtain rfl : y = 64 := (by omega)
                  exact am_mk64
                ·
                  obtain rfl : y = 65 := (by omega)
                  exact am_mk65
        ·
          by_cases hc66079 : y ≤ 71
          ·
            by_cases hc66072 : y ≤ 68
            ·
              by_cases hc66069 : y ≤ 66
              ·
                obtain rfl : y = 66 := (by omega)
                exact am_mk66
              ·
                by_cases hc67069 : y ≤ 67
                ·
                  obtain rfl : y = 67 := (by omega)
                  exact am_mk67
                ·
                  obtain rfl : y = 68 := (by omega)
                  exact am_mk68
            ·
              by_cases hc69072 : y ≤ 69
              ·
                obtain rfl : y = 69 := (by omega)
                exact am_mk69
              ·
                by_cases hc70072 : y ≤ 70
                ·
                  obtain rfl : y = 70 := (by omega)
                  exact am_mk70
                ·
                  obtain rfl : y = 71 := (by omega)
                  exact am_mk71
          ·
            by_cases hc72079 : y ≤ 74
            ·
              by_cases hc72075 : y ≤ 72
              ·
                obtain rfl : y = 72 := (by omega)
                exact am_mk72
              ·
                by_cases hc73075 : y ≤ 73
                ·
                  obtain rfl : y = 73 := (by omega)
                  exact am_mk73
                ·
                  obtain rfl : y = 74 := (by omega)
                  exact am_mk74
            ·
              by_cases hc75079 : y ≤ 76
              ·
                by_cases hc75077 : y ≤ 75
                ·
                  obtain rfl : y = 75 := (by omega)
                  exact am_mk75
                ·
                  obtain rfl : y = 76 := (by omega)
                  exact am_mk76
              ·
                by_cases hc77079 : y ≤ 77
                ·
                  obtain rfl : y = 77 := (by omega)
                  exact am_mk77
                ·
                  obtain rfl : y = 78 := (by omega)
                  exact am_mk78
      ·
        by_cases hc79106 : y ≤ 91
        ·
          by_cases hc79092 : y ≤ 84
          ·
            by_cases hc79085 : y ≤ 81
            ·
              by_cases hc79082 : y ≤ 79
              ·
                obtain rfl : y = 79 := (by omega)
                exact am_mk79
              ·
                by_cases hc80082 : y ≤ 80
                ·
                  obtain rfl : y = 80 := (by omega)
                  exact am_mk80
                ·
                  obtain rfl : y = 81 := (by omega)
                  exact am_mk81
            ·
              by_cases hc82085 : y ≤ 82
              ·
                obtain rfl : y = 82 := (by omega)
                exact am_mk82
              ·
                by_cases hc83085 : y ≤ 83
                ·
                  obtain rfl : y = 83 := (by omega)
                  exact am_mk83
                ·
                  obtain rfl : y = 84 := (by omega)
                  exact am_mk84
          ·
            by_cases hc85092 : y ≤ 87
            ·
              by_cases hc85088 : y ≤ 85
              ·
                obtain rfl : y = 85 := (by omega)
                exact am_mk85
              ·
                by_cases hc86088 : y ≤ 86
                ·
                  obtain rfl : y = 86 := (by omega)
                  exact am_mk86
                ·
                  obtain rfl : y = 87 := (by omega)
                  exact am_mk87
            ·
              by_cases hc88092 : y ≤ 89
              ·
                by_cases hc88090 : y ≤ 88
                ·
                  obtain rfl : y = 88 := (by omega)
                  exact am_mk88
                ·
                  obtain rfl : y = 89 := (by omega)
                  exact am_mk89
              ·
                by_cases hc90092 : y ≤ 90
                ·
                  obtain rfl : y = 90 := (by omega)
                  exact am_mk90
                ·
                  obtain rfl : y = 91 := (by omega)
                  exact am_mk91
        ·
          by_cases hc92106 : y ≤ 98
          ·
            by_cases hc92099 : y ≤ 94
            ·
              by_cases hc92095 : y ≤ 92
              ·
                obtain rfl : y = 92 := (by omega)
                exact am_mk92
              ·
                by_cases hc93095 : y ≤ 93
                ·
                  obtain rfl : y = 93 := (by omega)
                  exact am_mk93
                ·
                  obtain rfl : y = 94 := (by omega)
                  exact am_mk94
            ·
              by_cases hc95099 : y ≤ 96
              ·
                by_cases hc95097 : y ≤ 95
                ·
                  obtain rfl : y = 95 := (by omega)
                  exact am_mk95
                ·
                  obtain rfl : y = 96 := (by omega)
                  exact am_mk96
              ·
                by_cases hc97099 : y ≤ 97
                ·
                  obtain rfl : y = 97 := (by omega)
                  exact am_mk97
                ·
                  obtain rfl : y = 98 := (by omega)
                  exact am_mk98
          ·
            by_cases hc99106 : y ≤ 101
            ·
              by_cases hc99102 : y ≤ 99
              ·
                obtain rfl : y = 99 := (by omega)
                exact am_mk99
              ·
                by_cases hc100102 : y ≤ 100
                ·
                  obtain rfl : y = 100 := (by omega)
                  exact am_mk100
                ·
                  obtain rfl : y = 101 := (by omega)
                  exact am_mk101
            ·
              by_cases hc102106 : y ≤ 103
              ·
                by_cases hc102104 : y ≤ 102
                ·
                  obtain rfl : y = 102 := (by omega)
                  exact am_mk102
                ·
                  obtain rfl : y = 103 := (by omega)
                  exact am_mk103
              ·
                by_cases hc104106 : y ≤ 104
                ·
                  obtain rfl : y = 104 := (by omega)
                  exact am_mk104
                ·
                  obtain rfl : y = 105 := (by omega)
                  exact am_mk105
  ·
    by_cases hc106213 : y ≤ 158
    ·
      by_cases hc106159 : y ≤ 131
      ·
        by_cases hc106132 : y ≤ 118
        ·
          by_cases hc106119 : y ≤ 111
          ·
            by_cases hc106112 : y ≤ 108
            ·
              by_cases hc106109 : y ≤ 106
              ·
                obtain rfl : y = 106 := (by omega)
                exact am_mk106
              ·
                by_cases hc107109 : y ≤ 107
                ·
                  obtain rfl : y = 107 := (by omega)
                  exact am_mk107
                ·
                  obtain rfl : y = 108 := (by omega)
                  exact am_mk108
            ·
              by_cases hc109112 : y ≤ 109
              ·
                obtain rfl : y = 109 := (by omega)
                exact am_mk109
              ·
                by_cases hc110112 : y ≤ 110
                ·
                  obtain rfl : y = 110 := (by omega)
                  exact am_mk110
                ·
                  obtain rfl : y = 111 := (by omega)
                  exact am_mk111
          ·
            by_cases hc112119 : y ≤ 114
            ·
              by_cases hc112115 : y ≤ 112
              ·
                obtain rfl : y = 112 := (by omega)
                exact am_mk112
              ·
                by_cases hc113115 : y ≤ 113
                ·
                  obtain rfl : y = 113 := (by omega)
                  exact am_mk113
                ·
                  obtain rfl : y = 114 := (by omega)
                  exact am_mk114
            ·
              by_cases hc115119 : y ≤ 116
              ·
                by_cases hc115117 : y ≤ 115
                ·
                  obtain rfl : y = 115 := (by omega)
                  exact am_mk115
                ·
                  obtain rfl : y = 116 := (by omega)
                  exact am_mk116
              ·
                by_cases hc117119 : y ≤ 117
                ·
                  obtain rfl : y = 117 := (by omega)
                  exact am_mk117
                ·
                  obtain rfl : y = 118 := (by omega)
                  exact am_mk118
        ·
          by_cases hc119132 : y ≤ 124
          ·
            by_cases hc119125 : y ≤ 121
            ·
              by_cases hc119122 : y ≤ 119
              ·
                obtain rfl : y = 119 := (by omega)
                exact am_mk119
              ·
                by_cases hc120122 : y ≤ 120
                ·
                  obtain rfl : y = 120 := (by omega)
                  exact am_mk120
                ·
                  obtain rfl : y = 121 := (by omega)
                  exact am_mk121
            ·
              by_cases hc122125 : y ≤ 122
              ·
                obtain rfl : y = 122 := (by omega)
                exact am_mk122
              ·
                by_cases hc123125 : y ≤ 123
                ·
                  obtain rfl : y = 123 := (by omega)
                  exact am_mk123
                ·
                  obtain rfl : y = 124 := (by omega)
                  exact am_mk124
          ·
            by_cases hc125132 : y ≤ 127
            ·
              by_cases hc125128 : y ≤ 125
              ·
                obtain rfl : y = 125 := (by omega)
                exact am_mk125
              ·
                by_cases hc126128 : y ≤ 126
                ·
                  obtain rfl : y = 126 := (by omega)
                  exact am_mk126
                ·
                  obtain rfl : y = 127 := (by omega)
                  exact am_mk127
            ·
              by_cases hc128132 : y ≤ 129
              ·
                by_cases hc128130 : y ≤ 128
                ·
                  obtain rfl : y = 128 := (by omega)
                  exact am_mk128
                ·
                  obtain rfl : y = 129 := (by omega)
                  exact am_mk129
              ·
                by_cases hc130132 : y ≤ 130
                ·
                  obtain rfl : y = 130 := (by omega)
                  exact am_mk130
                ·
                  obtain rfl : y = 131 := (by omega)
                  exact am_mk131
      ·
        by_cases hc132159 : y ≤ 144
        ·
          by_cases hc132145 : y ≤ 137
          ·
            by_cases hc132138 : y ≤ 134
            ·
              by_cases hc132135 : y ≤ 132
              ·
                obtain rfl : y = 132 := (by omega)
                exact am_mk132
              ·
                by_cases hc133135 : y ≤ 133
                ·
                  obtain rfl : y = 133 := (by omega)
                  exact am_mk133
                ·
                  obtain rfl : y = 134 := (by omega)
                  exact am_mk134
            ·
              by_cases hc135138 : y ≤ 135
              ·
                obtain rfl : y = 135 := (by omega)
                exact am_mk135
              ·
                by_cases hc136138 : y ≤ 136
                ·
                  obtain rfl : y = 136 := (by omega)
                  exact am_mk136
                ·
                  obtain rfl : y = 137 := (by omega)
                  exact am_mk137
          ·
            by_cases hc138145 : y ≤ 140
            ·
              by_cases hc138141 : y ≤ 138
              ·
                obtain rfl : y = 138 := (by omega)
                exact am_mk138
              ·
                by_cases hc139141 : y ≤ 139
                ·
                  obtain rfl : y = 139 := (by omega)
                  exact am_mk139
                ·
                  obtain rfl : y = 140 := (by omega)
                  exact am_mk140
            ·
              by_cases hc141145 : y ≤ 142
              ·
                by_cases hc141143 : y ≤ 141
                ·
                  obtain rfl : y = 141 := (by omega)
                  exact am_mk141
                ·
                  obtain rfl : y = 142 := (by omega)
                  exact am_mk142
              ·
                by_cases hc143145 : y ≤ 143
                ·
                  obtain rfl : y = 143 := (by omega)
                  exact am_mk143
                ·
                  obtain rfl : y = 144 := (by omega)
                  exact am_mk144
        ·
          by_cases hc145159 : y ≤ 151
          ·
            by_cases hc145152 : y ≤ 147
            ·
              by_cases hc145148 : y ≤ 145
              ·
                obtain rfl : y = 145 := (by omega)
                exact am_mk145
              ·
                by_cases hc146148 : y ≤ 146
                ·
                  obtain rfl : y = 146 := (by omega)
                  exact am_mk146
                ·
                  obtain rfl : y = 147 := (by omega)
                  exact am_mk147
            ·
              by_cases hc148152 : y ≤ 149
              ·
                by_cases hc148150 : y ≤ 148
                ·
                  obtain rfl : y = 148 := (by omega)
                  exact am_mk148
                ·
                  obtain rfl : y = 149 := (by omega)
                  exact am_mk149
              ·
                by_cases hc150152 : y ≤ 150
                ·
                  obtain rfl : y = 150 := (by omega)
                  exact am_mk150
                ·
                  obtain rfl : y = 151 := (by omega)
                  exact am_mk151
          ·
            by_cases hc152159 : y ≤ 154
            ·
              by_cases hc152155 : y ≤ 152
              ·
                obtain rfl : y = 152 := (by omega)
                exact am_mk152
              ·
                by_cases hc153155 : y ≤ 153
                ·
                  obtain rfl : y = 153 := (by omega)
                  exact am_mk153
                ·
                  obtain rfl : y = 154 := (by omega)
                  exact am_mk154
            ·
              by_cases hc155159 : y ≤ 156
              ·
                by_cases hc155157 : y ≤ 155
                ·
                  obtain rfl : y = 155 := (by omega)
                  exact am_mk155
                ·
                  obtain rfl : y = 156 := (by omega)
                  exact am_mk156
              ·
                by_cases hc157159 : y ≤ 157
                ·
                  obtain rfl : y = 157 := (by omega)
                  exact am_mk157
                ·
                  obtain rfl : y = 158 := (by omega)
                  exact am_mk158
    ·
      by_cases hc159213 : y ≤ 185
      ·
        by_cases hc159186 : y ≤ 171
        ·
          by_cases hc159172 : y ≤ 164
          ·
            by_cases hc159165 : y ≤ 161
            ·
              by_cases hc159162 : y ≤ 159
              ·
                obtain rfl : y = 159 := (by omega)
                exact am_mk159
              ·
                by_cases hc160162 : y ≤ 160
                ·
                  obtain rfl : y = 160 := (by omega)
                  exact am_mk160
                ·
                  obtain rfl : y = 161 := (by omega)
                  exact am_mk161
            ·
              by_cases hc162165 : y ≤ 162
              ·
                obtain rfl : y = 162 := (by omega)
                exact am_mk162
              ·
                by_cases hc163165 : y ≤ 163
                ·
                  obtain rfl : y = 163 := (by omega)
                  exact am_mk163
                ·
                  obtain rfl : y = 164 := (by omega)
                  exact am_mk164
          ·
            by_cases hc165172 : y ≤ 167
            ·
              by_cases hc165168 : y ≤ 165
              ·
                obtain rfl : y = 165 := (by omega)
                exact am_mk165
              ·
                by_cases hc166168 : y ≤ 166
                ·
                  obtain rfl : y = 166 := (by omega)
                  exact am_mk166
                ·
                  obtain rfl : y = 167 := (by omega)
                  exact am_mk167
            ·
              by_cases hc168172 : y ≤ 169
              ·
                by_cases hc168170 : y ≤ 168
                ·
                  obtain rfl : y = 168 := (by omega)
                  exact am_mk168
                ·
                  obtain rfl : y = 169 := (by omega)
                  exact am_mk169
              ·
                by_cases hc170172 : y ≤ 170
                ·
                  obtain rfl : y = 170 := (by omega)
                  exact am_mk170
                ·
                  obtain rfl : y = 171 := (by omega)
                  exact am_mk171
        ·
          by_cases hc172186 : y ≤ 178
          ·
            by_cases hc172179 : y ≤ 174
            ·
              by_cases hc172175 : y ≤ 172
              ·
                obtain rfl : y = 172 := (by omega)
                exact am_mk172
              ·
                by_cases hc173175 : y ≤ 173
                ·
                  obtain rfl : y = 173 := (by omega)
                  exact am_mk173
                ·
                  obtain rfl : y = 174 := (by omega)
                  exact am_mk174
            ·
              by_cases hc175179 : y ≤ 176
              ·
                by_cases hc175177 : y ≤ 175
                ·
                  obtain rfl : y = 175 := (by omega)
                  exact am_mk175
                ·
                  obtain rfl : y = 176 := (by omega)
                  exact am_mk176
              ·
                by_cases hc177179 : y ≤ 177
                ·
                  obtain rfl : y = 177 := (by omega)
                  exact am_mk177
                ·
                  obtain rfl : y = 178 := (by omega)
                  exact am_mk178
          ·
            by_cases hc179186 : y ≤ 181
            ·
              by_cases hc179182 : y ≤ 179
              ·
                obtain rfl : y = 179 := (by omega)
                exact am_mk179
              ·
                by_cases hc180182 : y ≤ 180
                ·
                  obtain rfl : y = 180 := (by omega)
                  exact am_mk180
                ·
                  obtain rfl : y = 181 := (by omega)
                  exact am_mk181
            ·
              by_cases hc182186 : y ≤ 183
              ·
                by_cases hc182184 : y ≤ 182
                ·
                  obtain rfl : y = 182 := (by omega)
                  exact am_mk182
                ·
                  obtain rfl : y = 183 := (by omega)
                  exact am_mk183
              ·
                by_cases hc184186 : y ≤ 184
                ·
                  obtain rfl : y = 184 := (by omega)
                  exact am_mk184
                ·
                  obtain rfl : y = 185 := (by omega)
                  exact am_mk185
      ·
        by_cases hc186213 : y ≤ 198
        ·
          by_cases hc186199 : y ≤ 191
          ·
            by_cases hc186192 : y ≤ 188
            ·
              by_cases hc186189 : y ≤ 186
              ·
                obtain rfl : y = 186 := (by omega)
                exact am_mk186
              ·
                by_cases hc187189 : y ≤ 187
                ·
                  obtain rfl : y = 187 := (by omega)
                  exact am_mk187
                ·
                  obtain rfl : y = 188 := (by omega)
                  exact am_mk188
            ·
              by_cases hc189192 : y ≤ 189
              ·
                obtain rfl : y = 189 := (by omega)
                exact am_mk189
              ·
                by_cases hc190192 : y ≤ 190
                ·
                  obtain rfl : y = 190 := (by omega)
                  exact am_mk190
                ·
                  obtain rfl : y = 191 := (by omega)
                  exact am_mk191
          ·
            by_cases hc192199 : y ≤ 194
            ·
              by_cases hc192195 : y ≤ 192
              ·
                obtain rfl : y = 192 := (by omega)
                exact am_mk192
              ·
                by_cases hc193195 : y ≤ 193
                ·
                  obtain rfl : y = 193 := (by omega)
                  exact am_mk193
                ·
                  obtain rfl : y = 194 := (by omega)
                  exact am_mk194
            ·
              by_cases hc195199 : y ≤ 196
              ·
                by_cases hc195197 : y ≤ 195
                ·
                  obtain rfl : y = 195 := (by omega)
                  exact am_mk195
                ·
                  obtain rfl : y = 196 := (by omega)
                  exact am_mk196
              ·
                by_cases hc197199 : y ≤ 197
                ·
                  obtain rfl : y = 197 := (by omega)
                  exact am_mk197
                ·
                  obtain rfl : y = 198 := (by omega)
                  exact am_mk198
        ·
          by_cases hc199213 : y ≤ 205
          ·
            by_cases hc199206 : y ≤ 201
            ·
              by_cases hc199202 : y ≤ 199
              ·
                obtain rfl : y = 199 := (by omega)
                exact am_mk199
              ·
                by_cases hc200202 : y ≤ 200
                ·
                  obtain rfl : y = 200 := (by omega)
                  exact am_mk200
                ·
                  obtain rfl : y = 201 := (by omega)
                  exact am_mk201
            ·
              by_cases hc202206 : y ≤ 203
              ·
                by_cases hc202204 : y ≤ 202
                ·
                  obtain rfl : y = 202 := (by omega)
                  cases hy
                ·
                  obtain rfl : y = 203 := (by omega)
                  cases hy
              ·
                by_cases hc204206 : y ≤ 204
                ·
                  obtain rfl : y = 204 := (by omega)
                  cases hy
                ·
                  obtain rfl : y = 205 := (by omega)
                  cases hy
          ·
            by_cases hc206213 : y ≤ 208
            ·
              by_cases hc206209 : y ≤ 206
              ·
                obtain rfl : y = 206 := (by omega)
                cases hy
              ·
                by_cases hc207209 : y ≤ 207
                ·
                  obtain rfl : y = 207 := (by omega)
                  cases hy
                ·
                  obtain rfl : y = 208 := (by omega)
                  exact am_mk208
            ·
              by_cases hc209213 : y ≤ 210
              ·
                by_cases hc209211 : y ≤ 209
                ·
                  obtain rfl : y = 209 := (by omega)
                  exact am_mk209
                ·
                  obtain rfl : y = 210 := (by omega)
                  exact am_mk210
              ·
                by_cases hc211213 : y ≤ 211
                ·
                  obtain rfl : y = 211 := (by omega)
                  exact am_mk211
                ·
                  obtain rfl : y = 212 := (by omega)
                  exact am_mk212
set_option maxHeartbeats 4000000 in
set_option maxRecDepth 100000 in
theorem am_in_ok (y : Nat) (hy : y ≤ 212) : am_in y = true → (am_Mt y).1.name = "<init>" := by
  by_cases hc213 : y ≤ 105
  ·
    by_cases hc106 : y ≤ 52
    ·
      by_cases hc53 : y ≤ 25
      ·
        by_cases hc26 : y ≤ 12
        ·
          by_cases hc13 : y ≤ 5
          ·
            by_cases hc6 : y ≤ 2
            ·
              by_cases hc3 : y ≤ 0
              ·
                obtain rfl : y = 0 := (by omega)
                exact fun h => by cases h
              ·
                by_cases hc1003 : y ≤ 1
                ·
                  obtain rfl : y = 1 := (by omega)
                  exact fun h => by cases h
                ·
                  obtain rfl : y = 2 := (by omega)
                  exact fun h => by cases h
            ·
              by_cases hc3006 : y ≤ 3
              ·
                obtain rfl : y = 3 := (by omega)
                exact fun h => by cases h
              ·
                by_cases hc4006 : y ≤ 4
                ·
                  obtain rfl : y = 4 := (by omega)
                  exact fun h => by cases h
                ·
                  obtain rfl : y = 5 := (by omega)
                  exact fun h => by cases h
          ·
            by_cases hc6013 : y ≤ 8
            ·
              by_cases hc6009 : y ≤ 6
              ·
                obtain rfl : y = 6 := (by omega)
                exact fun h => by cases h
              ·
                by_cases hc7009 : y ≤ 7
                ·
                  obtain rfl : y = 7 := (by omega)
                  exact fun _ => rfl
                ·
                  obtain rfl : y = 8 := (by omega)
                  exact fun h => by cases h
            ·
              by_cases hc9013 : y ≤ 10
              ·
                by_cases hc9011 : y ≤ 9
                ·
                  obtain rfl : y = 9 := (by omega)
                  exact fun h => by cases h
                ·
                  obtain rfl : y = 10 := (by omega)
                  exact fun h => by cases h
              ·
                by_cases hc11013 : y ≤ 11
                ·
                  obtain rfl : y = 11 := (by omega)
                  exact fun h => by cases h
                ·
                  obtain rfl : y = 12 := (by omega)
                  exact fun h => by cases h
        ·
          by_cases hc13026 : y ≤ 18
          ·
            by_cases hc13019 : y ≤ 15
            ·
              by_cases hc13016 : y ≤ 13
              ·
                obtain rfl : y = 13 := (by omega)
                exact fun h => by cases h
              ·
                by_cases hc14016 : y ≤ 14
                ·
                  obtain rfl : y = 14 := (by omega)
                  exact fun h => by cases h
                ·
                  obtain rfl : y = 15 := (by omega)
                  exact fun h => by cases h
            ·
              by_cases hc16019 : y ≤ 16
              ·
                obtain rfl : y = 16 := (by omega)
                exact fun _ => rfl
              ·
                by_cases hc17019 : y ≤ 17
                ·
                  obtain rfl : y = 17 := (by omega)
                  exact fun h => by cases h
                ·
                  obtain rfl : y = 18 := (by omega)
                  exact fun h => by cases h
          ·
            by_cases hc19026 : y ≤ 21
            ·
              by_cases hc19022 : y ≤ 19
              ·
                obtain rfl : y = 19 := (by omega)
                exact fun h => by cases h
              ·
                by_cases hc20022 : y ≤ 20
                ·
                  obtain rfl : y = 20 := (by omega)
                  exact fun h => by cases h
                ·
                  obtain rfl : y = 21 := (by omega)
                  exact fun h => by cases h
            ·
              by_cases hc22026 : y ≤ 23
              ·
                by_cases hc22024 : y ≤ 22
                ·
                  obtain rfl : y = 22 := (by omega)
                  exact fun h => by cases h
                ·
                  obtain rfl : y = 23 := (by omega)
                  exact fun h => by cases h
              ·
                by_cases hc24026 : y ≤ 24
                ·
                  obtain rfl : y = 24 := (by omega)
                  exact fun _ => rfl
                ·
                  obtain rfl : y = 25 := (by omega)
                  exact fun h => by cases h
      ·
        by_cases hc26053 : y ≤ 38
        ·
          by_cases hc26039 : y ≤ 31
          ·
            by_cases hc26032 : y ≤ 28
            ·
              by_cases hc26029 : y ≤ 26
              ·
                obtain rfl : y = 26 := (by omega)
                exact fun h => by cases h
              ·
                by_cases hc27029 : y ≤ 27
                ·
                  obtain rfl : y = 27 := (by omega)
                  exact fun h => by cases h
                ·
                  obtain rfl : y = 28 := (by omega)
                  exact fun h => by cases h
            ·
              by_cases hc29032 : y ≤ 29
              ·
                obtain rfl : y = 29 := (by omega)
                exact fun h => by cases h
              ·
                by_cases hc30032 : y ≤ 30
                ·
                  obtain rfl : y = 30 := (by omega)
                  exact fun h => by cases h
                ·
                  obtain rfl : y = 31 := (by omega)
                  exact fun h => by cases h
          ·
            by_cases hc32039 : y ≤ 34
            ·
              by_cases hc32035 : y ≤ 32
              ·
                obtain rfl : y = 32 := (by omega)
                exact fun h => by cases h
              ·
                by_cases hc33035 : y ≤ 33
                ·
                  obtain rfl : y = 33 := (by omega)
                  exact fun _ => rfl
                ·
                  obtain rfl : y = 34 := (by omega)
                  exact fun h => by cases h
            ·
              by_cases hc35039 : y ≤ 36
              ·
                by_cases hc35037 : y ≤ 35
                ·
                  obtain rfl : y = 35 := (by omega)
                  exact fun h => by cases h
                ·
                  obtain rfl : y = 36 := (by omega)
                  exact fun h => by cases h
              ·
                by_cases hc37039 : y ≤ 37
                ·
                  obtain rfl : y = 37 := (by omega)
                  exact fun h => by cases h
                ·
                  obtain rfl : y = 38 := (by omega)
                  exact fun h => by cases h
        ·
          by_cases hc39053 : y ≤ 45
          ·
            by_cases hc39046 : y ≤ 41
            ·
              by_cases hc39042 : y ≤ 39
              ·
                obtain rfl : y = 39 := (by omega)
                exact fun h => by cases h
              ·
                by_cases hc40042 : y ≤ 40
                ·
                  obtain rfl : y = 40 := (by omega)
                  exact fun h => by cases h
                ·
                  obtain rfl : y = 41 := (by omega)
                  exact fun h => by cases h
            ·
              by_cases hc42046 : y ≤ 43
              ·
                by_cases hc42044 : y ≤ 42
                ·
                  obtain rfl : y = 42 := (by omega)
                  exact fun _ => rfl
                ·
                  obtain rfl : y = 43 := (by omega)
                  exact fun h => by cases h
              ·
                by_cases hc44046 : y ≤ 44
                ·
                  obtain rfl : y = 44 := (by omega)
                  exact fun h => by cases h
                ·
                  obtain rfl : y = 45 := (by omega)
                  exact fun h => by cases h
          ·
            by_cases hc46053 : y ≤ 48
            ·
              by_cases hc46049 : y ≤ 46
              ·
                obtain rfl : y = 46 := (by omega)
                exact fun h => by cases h
              ·
                by_cases hc47049 : y ≤ 47
                ·
                  obtain rfl : y = 47 := (by omega)
                  exact fun h => by cases h
                ·
                  obtain rfl : y = 48 := (by omega)
                  exact fun h => by cases h
            ·
              by_cases hc49053 : y ≤ 50
              ·
                by_cases hc49051 : y ≤ 49
                ·
                  obtain rfl : y = 49 := (by omega)
                  exact fun h => by cases h
                ·
                  obtain rfl : y = 50 := (by omega)
                  exact fun h => by cases h
              ·
                by_cases hc51053 : y ≤ 51
                ·
                  obtain rfl : y = 51 := (by omega)
                  exact fun h => by cases h
                ·
                  obtain rfl : y = 52 := (by omega)
                  exact fun h => by cases h
    ·
      by_cases hc53106 : y ≤ 78
      ·
        by_cases hc53079 : y ≤ 65
        ·
          by_cases hc53066 : y ≤ 58
          ·
            by_cases hc53059 : y ≤ 55
            ·
              by_cases hc53056 : y ≤ 53
              ·
                obtain rfl : y = 53 := (by omega)
                exact fun _ => rfl
              ·
                by_cases hc54056 : y ≤ 54
                ·
                  obtain rfl : y = 54 := (by omega)
                  exact fun h => by cases h
                ·
                  obtain rfl : y = 55 := (by omega)
                  exact fun h => by cases h
            ·
              by_cases hc56059 : y ≤ 56
              ·
                obtain rfl : y = 56 := (by omega)
                exact fun h => by cases h
              ·
                by_cases hc57059 : y ≤ 57
                ·
                  obtain rfl : y = 57 := (by omega)
                  exact fun h => by cases h
                ·
                  obtain rfl : y = 58 := (by omega)
                  exact fun h => by cases h
          ·
            by_cases hc59066 : y ≤ 61
            ·
              by_cases hc59062 : y ≤ 59
              ·
                obtain rfl : y = 59 := (by omega)
                exact fun h => by cases h
              ·
                by_cases hc60062 : y ≤ 60
                ·
                  obtain rfl : y = 60 := (by omega)
                  exact fun h => by cases h
                ·
                  obtain rfl : y = 61 := (by omega)
                  exact fun h => by cases h
            ·
              by_cases hc62066 : y ≤ 63
              ·
                by_cases hc62064 : y ≤ 62
                ·
                  obtain rfl : y = 62 := (by omega)
                  exact fun _ => rfl
                ·
                  obtain rfl : y = 63 := (by omega)
                  exact fun h => by cases h
              ·
                by_cases hc64066 : y ≤ 64
                ·
                  obtain rfl : y = 64 := (by omega)
                  exact fun h => by cases h
                ·
                  obtain rfl : y = 65 := (by omega)
                  exact fun h => by cases h
        ·
          by_cases hc66079 : y ≤ 71
          ·
            by_cases hc66072 : y ≤ 68
            ·
              by_cases hc66069 : y ≤ 66
              ·
                obtain rfl : y = 66 := (by omega)
                exact fun h => by cases h
              ·
                by_cases hc67069 : y ≤ 67
                ·
                  obtain rfl : y = 67 := (by omega)
                  exact fun _ => rfl
                ·
                  obtain rfl : y = 68 := (by omega)
                  exact fun h => by cases h
            ·
              by_cases hc69072 : y ≤ 69
              ·
                obtain rfl : y = 69 := (by omega)
                exact fun h => by cases h
              ·
                by_cases hc70072 : y ≤ 70
                ·
                  obtain rfl : y = 70 := (by omega)
                  exact fun h => by cases h
                ·
                  obtain rfl : y = 71 := (by omega)
                  exact fun h => by cases h
          ·
            by_cases hc72079 : y ≤ 74
            ·
              by_cases hc72075 : y ≤ 72
              ·
                obtain rfl : y = 72 := (by omega)
                exact fun h => by cases h
              ·
                by_cases hc73075 : y ≤ 73
                ·
                  obtain rfl : y = 73 := (by omega)
                  exact fun h => by cases h
                ·
                  obtain rfl : y = 74 := (by omega)
                  exact fun h => by cases h
            ·
              by_cases hc75079 : y ≤ 76
              ·
                by_cases hc75077 : y ≤ 75
                ·
                  obtain rfl : y = 75 := (by omega)
                  exact fun _ => rfl
                ·
                  obtain rfl : y = 76 := (by omega)
                  exact fun h => by cases h
              ·
                by_cases hc77079 : y ≤ 77
                ·
                  obtain rfl : y = 77 := (by omega)
                  exact fun h => by cases h
                ·
                  obtain rfl : y = 78 := (by omega)
                  exact fun h => by cases h
      ·
        by_cases hc79106 : y ≤ 91
        ·
          by_cases hc79092 : y ≤ 84
          ·
            by_cases hc79085 : y ≤ 81
            ·
              by_cases hc79082 : y ≤ 79
              ·
                obtain rfl : y = 79 := (by omega)
                exact fun h => by cases h
              ·
                by_cases hc80082 : y ≤ 80
                ·
                  obtain rfl : y = 80 := (by omega)
                  exact fun h => by cases h
                ·
                  obtain rfl : y = 81 := (by omega)
                  exact fun h => by cases h
            ·
              by_cases hc82085 : y ≤ 82
              ·
                obtain rfl : y = 82 := (by omega)
                exact fun h => by cases h
              ·
                by_cases hc83085 : y ≤ 83
                ·
                  obtain rfl : y = 83 := (by omega)
                  exact fun h => by cases h
                ·
                  obtain rfl : y = 84 := (by omega)
                  exact fun h => by cases h
          ·
            by_cases hc85092 : y ≤ 87
            ·
              by_cases hc85088 : y ≤ 85
              ·
                obtain rfl : y = 85 := (by omega)
                exact fun h => by cases h
              ·
                by_cases hc86088 : y ≤ 86
                ·
                  obtain rfl : y = 86 := (by omega)
                  exact fun h => by cases h
                ·
                  obtain rfl : y = 87 := (by omega)
                  exact fun h => by cases h
            ·
              by_cases hc88092 : y ≤ 89
              ·
                by_cases hc88090 : y ≤ 88
                ·
                  obtain rfl : y = 88 := (by omega)
                  exact fun h => by cases h
                ·
                  obtain rfl : y = 89 := (by omega)
                  exact fun h => by cases h
              ·
                by_cases hc90092 : y ≤ 90
                ·
                  obtain rfl : y = 90 := (by omega)
                  exact fun h => by cases h
                ·
                  obtain rfl : y = 91 := (by omega)
                  exact fun _ => rfl
        ·
          by_cases hc92106 : y ≤ 98
          ·
            by_cases hc92099 : y ≤ 94
            ·
              by_cases hc92095 : y ≤ 92
              ·
                obtain rfl : y = 92 := (by omega)
                exact fun h => by cases h
              ·
                by_cases hc93095 : y ≤ 93
                ·
                  obtain rfl : y = 93 := (by omega)
                  exact fun h => by cases h
                ·
                  obtain rfl : y = 94 := (by omega)
                  exact fun h => by cases h
            ·
              by_cases hc95099 : y ≤ 96
              ·
                by_cases hc95097 : y ≤ 95
                ·
                  obtain rfl : y = 95 := (by omega)
                  exact fun h => by cases h
                ·
                  obtain rfl : y = 96 := (by omega)
                  exact fun h => by cases h
              ·
                by_cases hc97099 : y ≤ 97
                ·
                  obtain rfl : y = 97 := (by omega)
                  exact fun h => by cases h
                ·
                  obtain rfl : y = 98 := (by omega)
                  exact fun h => by cases h
          ·
            by_cases hc99106 : y ≤ 101
            ·
              by_cases hc99102 : y ≤ 99
              ·
                obtain rfl : y = 99 := (by omega)
                exact fun h => by cases h
              ·
                by_cases hc100102 : y ≤ 100
                ·
                  obtain rfl : y = 100 := (by omega)
                  exact fun h => by cases h
                ·
                  obtain rfl : y = 101 := (by omega)
                  exact fun h => by cases h
            ·
              by_cases hc102106 : y ≤ 103
              ·
                by_cases hc102104 : y ≤ 102
                ·
                  obtain rfl : y = 102 := (by omega)
                  exact fun _ => rfl
                ·
                  obtain rfl : y = 103 := (by omega)
                  exact fun h => by cases h
              ·
                by_cases hc104106 : y ≤ 104
                ·
                  obtain rfl : y = 104 := (by omega)
                  exact fun h => by cases h
                ·
                  obtain rfl : y = 105 := (by omega)
                  exact fun h => by cases h
  ·
    by_cases hc106213 : y ≤ 158
    ·
      by_cases hc106159 : y ≤ 131
      ·
        by_cases hc106132 : y ≤ 118
        ·
          by_cases hc106119 : y ≤ 111
          ·
            by_cases hc106112 : y ≤ 108
            ·
              by_cases hc106109 : y ≤ 106
              ·
                obtain rfl : y = 106 := (by omega)
                exact fun h => by cases h
              ·
                by_cases hc107109 : y ≤ 107
                ·
                  obtain rfl : y = 107 := (by omega)
                  exact fun h => by cases h
                ·
                  obtain rfl : y = 108 := (by omega)
                  exact fun h => by cases h
            ·
              by_cases hc109112 : y ≤ 109
              ·
                obtain rfl : y = 109 := (by omega)
                exact fun h => by cases h
              ·
                by_cases hc110112 : y ≤ 110
                ·
                  obtain rfl : y = 110 := (by omega)
                  exact fun h => by cases h
                ·
                  obtain rfl : y = 111 := (by omega)
                  exact fun h => by cases h
          ·
            by_cases hc112119 : y ≤ 114
            ·
              by_cases hc112115 : y ≤ 112
              ·
                obtain rfl : y = 112 := (by omega)
                exact fun h => by cases h
              ·
                by_cases hc113115 : y ≤ 113
                ·
                  obtain rfl : y = 113 := (by omega)
                  exact fun h => by cases h
                ·
                  obtain rfl : y = 114 := (by omega)
                  exact fun h => by cases h
            ·
              by_cases hc115119 : y ≤ 116
              ·
                by_cases hc115117 : y ≤ 115
                ·
                  obtain rfl : y = 115 := (by omega)
                  exact fun h => by cases h
                ·
                  obtain rfl : y = 116 := (by omega)
                  exact fun h => by cases h
              ·
                by_cases hc117119 : y ≤ 117
                ·
                  obtain rfl : y = 117 := (by omega)
                  exact fun h => by cases h
                ·
                  obtain rfl : y = 118 := (by omega)
                  exact fun h => by cases h
        ·
          by_cases hc119132 : y ≤ 124
          ·
            by_cases hc119125 : y ≤ 121
            ·
              by_cases hc119122 : y ≤ 119
              ·
                obtain rfl : y = 119 := (by omega)
                exact fun h => by cases h
              ·
                by_cases hc120122 : y ≤ 120
                ·
                  obtain rfl : y = 120 := (by omega)
                  exact fun h => by cases h
                ·
                  obtain rfl : y = 121 := (by omega)
                  exact fun _ => rfl
            ·
              by_cases hc122125 : y ≤ 122
              ·
                obtain rfl : y = 122 := (by omega)
                exact fun h => by cases h
              ·
                by_cases hc123125 : y ≤ 123
                ·
                  obtain rfl : y = 123 := (by omega)
                  exact fun h => by cases h
                ·
                  obtain rfl : y = 124 := (by omega)
                  exact fun h => by cases h
          ·
            by_cases hc125132 : y ≤ 127
            ·
              by_cases hc125128 : y ≤ 125
              ·
                obtain rfl : y = 125 := (by omega)
                exact fun h => by cases h
              ·
                by_cases hc126128 : y ≤ 126
                ·
                  obtain rfl : y = 126 := (by omega)
                  exact fun h => by cases h
                ·
                  obtain rfl : y = 127 := (by omega)
                  exact fun h => by cases h
            ·
              by_cases hc128132 : y ≤ 129
              ·
                by_cases hc128130 : y ≤ 128
                ·
                  obtain rfl : y = 128 := (by omega)
                  exact fun h => by cases h
                ·
                  obtain rfl : y = 129 := (by omega)
                  exact fun h => by cases h
              ·
                by_cases hc130132 : y ≤ 130
                ·
                  obtain rfl : y = 130 := (by omega)
                  exact fun h => by cases h
                ·
                  obtain rfl : y = 131 := (by omega)
                  exact fun h => by cases h
      ·
        by_cases hc132159 : y ≤ 144
        ·
          by_cases hc132145 : y ≤ 137
          ·
            by_cases hc132138 : y ≤ 134
            ·
              by_cases hc132135 : y ≤ 132
              ·
                obtain rfl : y = 132 := (by omega)
                exact fun h => by cases h
              ·
                by_cases hc133135 : y ≤ 133
                ·
                  obtain rfl : y = 133 := (by omega)
                  exact fun h => by cases h
                ·
                  obtain rfl : y = 134 := (by omega)
                  exact fun h => by cases h
            ·
              by_cases hc135138 : y ≤ 135
              ·
                obtain rfl : y = 135 := (by omega)
                exact fun h => by cases h
              ·
                by_cases hc136138 : y ≤ 136
                ·
                  obtain rfl : y = 136 := (by omega)
                  exact fun h => by cases h
                ·
                  obtain rfl : y = 137 := (by omega)
                  exact fun h => by cases h
          ·
            by_cases hc138145 : y ≤ 140
            ·
              by_cases hc138141 : y ≤ 138
              ·
                obtain rfl : y = 138 := (by omega)
                exact fun h => by cases h
              ·
                by_cases hc139141 : y ≤ 139
                ·
                  obtain rfl : y = 139 := (by omega)
                  exact fun h => by cases h
                ·
                  obtain rfl : y = 140 := (by omega)
                  exact fun h => by cases h
            ·
              by_cases hc141145 : y ≤ 142
              ·
                by_cases hc141143 : y ≤ 141
                ·
                  obtain rfl : y = 141 := (by omega)
                  exact fun h => by cases h
                ·
                  obtain rfl : y = 142 := (by omega)
                  exact fun h => by cases h
              ·
                by_cases hc143145 : y ≤ 143
                ·
                  obtain rfl : y = 143 := (by omega)
                  exact fun h => by cases h
                ·
                  obtain rfl : y = 144 := (by omega)
                  exact fun h => by cases h
        ·
          by_cases hc145159 : y ≤ 151
          ·
            by_cases hc145152 : y ≤ 147
            ·
              by_cases hc145148 : y ≤ 145
              ·
                obtain rfl : y = 145 := (by omega)
                exact fun h => by cases h
              ·
                by_cases hc146148 : y ≤ 146
                ·
                  obtain rfl : y = 146 := (by omega)
                  exact fun h => by cases h
                ·
                  obtain rfl : y = 147 := (by omega)
                  exact fun h => by cases h
            ·
              by_cases hc148152 : y ≤ 149
              ·
                by_cases hc148150 : y ≤ 148
                ·
                  obtain rfl : y = 148 := (by omega)
                  exact fun h => by cases h
                ·
                  obtain rfl : y = 149 := (by omega)
                  exact fun h => by cases h
              ·
                by_cases hc150152 : y ≤ 150
                ·
                  obtain rfl : y = 150 := (by omega)
                  exact fun h => by cases h
                ·
                  obtain rfl : y = 151 := (by omega)
                  exact fun h => by cases h
          ·
            by_cases hc152159 : y ≤ 154
            ·
              by_cases hc152155 : y ≤ 152
              ·
                obtain rfl : y = 152 := (by omega)
                exact fun h => by cases h
              ·
                by_cases hc153155 : y ≤ 153
                ·
                  obtain rfl : y = 153 := (by omega)
                  exact fun h => by cases h
                ·
                  obtain rfl : y = 154 := (by omega)
                  exact fun h => by cases h
            ·
              by_cases hc155159 : y ≤ 156
              ·
                by_cases hc155157 : y ≤ 155
                ·
                  obtain rfl : y = 155 := (by omega)
                  exact fun h => by cases h
                ·
                  obtain rfl : y = 156 := (by omega)
                  exact fun h => by cases h
              ·
                by_cases hc157159 : y ≤ 157
                ·
                  obtain rfl : y = 157 := (by omega)
                  exact fun h => by cases h
                ·
                  obtain rfl : y = 158 := (by omega)
                  exact fun h => by cases h
    ·
      by_cases hc159213 : y ≤ 185
      ·
        by_cases hc159186 : y ≤ 171
        ·
          by_cases hc159172 : y ≤ 164
          ·
            by_cases hc159165 : y ≤ 161
            ·
              by_cases hc159162 : y ≤ 159
              ·
                obtain rfl : y = 159 := (by omega)
                exact fun h => by cases h
              ·
                by_cases hc160162 : y ≤ 160
                ·
                  obtain rfl : y = 160 := (by omega)
                  exact fun h => by cases h
                ·
                  obtain rfl : y = 161 := (by omega)
                  exact fun h => by cases h
            ·
              by_cases hc162165 : y ≤ 162
              ·
                obtain rfl : y = 162 := (by omega)
                exact fun h => by cases h
              ·
                by_cases hc163165 : y ≤ 163
                ·
                  obtain rfl : y = 163 := (by omega)
                  exact fun h => by cases h
                ·
                  obtain rfl : y = 164 := (by omega)
                  exact fun h => by cases h
          ·
            by_cases hc165172 : y ≤ 167
            ·
              by_cases hc165168 : y ≤ 165
              ·
                obtain rfl : y = 165 := (by omega)
                exact fun h => by cases h
              ·
                by_cases hc166168 : y ≤ 166
                ·
                  obtain rfl : y = 166 := (by omega)
                  exact fun h => by cases h
                ·
                  obtain rfl : y = 167 := (by omega)
                  exact fun h => by cases h
            ·
              by_cases hc168172 : y ≤ 169
              ·
                by_cases hc168170 : y ≤ 168
                ·
                  obtain rfl : y = 168 := (by omega)
                  exact fun h => by cases h
                ·
                  obtain rfl : y = 169 := (by omega)
                  exact fun h => by cases h
              ·
                by_cases hc170172 : y ≤ 170
                ·
                  obtain rfl : y = 170 := (by omega)
                  exact fun h => by cases h
                ·
                  obtain rfl : y = 171 := (by omega)
                  exact fun h => by cases h
        ·
          by_cases hc172186 : y ≤ 178
          ·
            by_cases hc172179 : y ≤ 174
            ·
              by_cases hc172175 : y ≤ 172
              ·
                obtain rfl : y = 172 := (by omega)
                exact fun h => by cases h
              ·
                by_cases hc173175 : y ≤ 173
                ·
                  obtain rfl : y = 173 := (by omega)
                  exact fun h => by cases h
                ·
                  obtain rfl : y = 174 := (by omega)
                  exact fun h => by cases h
            ·
              by_cases hc175179 : y ≤ 176
              ·
                by_cases hc175177 : y ≤ 175
                ·
                  obtain rfl : y = 175 := (by omega)
                  exact fun h => by cases h
                ·
                  obtain rfl : y = 176 := (by omega)
                  exact fun h => by cases h
              ·
                by_cases hc177179 : y ≤ 177
                ·
                  obtain rfl : y = 177 := (by omega)
                  exact fun h => by cases h
                ·
                  obtain rfl : y = 178 := (by omega)
                  exact fun h => by cases h
          ·
            by_cases hc179186 : y ≤ 181
            ·
              by_cases hc179182 : y ≤ 179
              ·
                obtain rfl : y = 179 := (by omega)
                exact fun h => by cases h
              ·
                by_cases hc180182 : y ≤ 180
                ·
                  obtain rfl : y = 180 := (by omega)
                  exact fun h => by cases h
                ·
                  obtain rfl : y = 181 := (by omega)
                  exact fun h => by cases h
            ·
              by_cases hc182186 : y ≤ 183
              ·
                by_cases hc182184 : y ≤ 182
                ·
                  obtain rfl : y = 182 := (by omega)
                  exact fun h => by cases h
                ·
                  obtain rfl : y = 183 := (by omega)
                  exact fun h => by cases h
              ·
                by_cases hc184186 : y ≤ 184
                ·
                  obtain rfl : y = 184 := (by omega)
                  exact fun h => by cases h
                ·
                  obtain rfl : y = 185 := (by omega)
                  exact fun h => by cases h
      ·
        by_cases hc186213 : y ≤ 198
        ·
          by_cases hc186199 : y ≤ 191
          ·
            by_cases hc186192 : y ≤ 188
            ·
              by_cases hc186189 : y ≤ 186
              ·
                obtain rfl : y = 186 := (by omega)
                exact fun h => by cases h
              ·
                by_cases hc187189 : y ≤ 187
                ·
                  obtain rfl : y = 187 := (by omega)
                  exact fun h => by cases h
                ·
                  obtain rfl : y = 188 := (by omega)
                  exact fun h => by cases h
            ·
              by_cases hc189192 : y ≤ 189
              ·
                obtain rfl : y = 189 := (by omega)
                exact fun h => by cases h
              ·
                by_cases hc190192 : y ≤ 190
                ·
                  obtain rfl : y = 190 := (by omega)
                  exact fun h => by cases h
                ·
                  obtain rfl : y = 191 := (by omega)
                  exact fun h => by cases h
          ·
            by_cases hc192199 : y ≤ 194
            ·
              by_cases hc192195 : y ≤ 192
              ·
                obtain rfl : y = 192 := (by omega)
                exact fun h => by cases h
              ·
                by_cases hc193195 : y ≤ 193
                ·
                  obtain rfl : y = 193 := (by omega)
                  exact fun h => by cases h
                ·
                  obtain rfl : y = 194 := (by omega)
                  exact fun h => by cases h
            ·
              by_cases hc195199 : y ≤ 196
              ·
                by_cases hc195197 : y ≤ 195
                ·
                  obtain rfl : y = 195 := (by omega)
                  exact fun h => by cases h
                ·
                  obtain rfl : y = 196 := (by omega)
                  exact fun h => by cases h
              ·
                by_cases hc197199 : y ≤ 197
                ·
                  obtain rfl : y = 197 := (by omega)
                  exact fun h => by cases h
                ·
                  obtain rfl : y = 198 := (by omega)
                  exact fun h => by cases h
        ·
          by_cases hc199213 : y ≤ 205
          ·
            by_cases hc199206 : y ≤ 201
            ·
              by_cases hc199202 : y ≤ 199
              ·
                obtain rfl : y = 199 := (by omega)
                exact fun h => by cases h
              ·
                by_cases hc200202 : y ≤ 200
                ·
                  obtain rfl : y = 200 := (by omega)
                  exact fun h => by cases h
                ·
                  obtain rfl : y = 201 := (by omega)
                  exact fun h => by cases h
            ·
              by_cases hc202206 : y ≤ 203
              ·
                by_cases hc202204 : y ≤ 202
                ·
                  obtain rfl : y = 202 := (by omega)
                  exact fun h => by cases h
                ·
                  obtain rfl : y = 203 := (by omega)
                  exact fun h => by cases h
              ·
                by_cases hc204206 : y ≤ 204
                ·
                  obtain rfl : y = 204 := (by omega)
                  exact fun h => by cases h
                ·
                  obtain rfl : y = 205 := (by omega)
                  exact fun h => by cases h
          ·
            by_cases hc206213 : y ≤ 208
            ·
              by_cases hc206209 : y ≤ 206
              ·
                obtain rfl : y = 206 := (by omega)
                exact fun h => by cases h
              ·
                by_cases hc207209 : y ≤ 207
                ·
                  obtain rfl : y = 207 := (by omega)
                  exact fun h => by cases h
                ·
                  obtain rfl : y = 208 := (by omega)
                  exact fun h => by cases h
            ·
              by_cases hc209213 : y ≤ 210
              ·
                by_cases hc209211 : y ≤ 209
                ·
                  obtain rfl : y = 209 := (by omega)
                  exact fun h => by cases h
                ·
                  obtain rfl : y = 210 := (by omega)
                  exact fun h => by cases h
              ·
                by_cases hc211213 : y ≤ 211
                ·
                  obtain rfl : y = 211 := (by omega)
                  exact fun h => by cases h
                ·
                  obtain rfl : y = 212 := (by omega)
                  exact fun h => by cases h
theorem am_cpw : Cond.native arraycopyName ∈ am_tb ∧ Cond.static arraycopyName ∈ am_tb ∧ Cond.initialized "java/lang/System" ∈ am_tb := by
  have h := am_wchk_ok (ws := [Cond.native arraycopyName, Cond.static arraycopyName, Cond.initialized "java/lang/System"]) (is := [279, 278, 104]) (by decide +kernel)
  exact ⟨h _ (by simp), h _ (by simp), h _ (by simp)⟩
theorem am_mmaxw : Cond.static Lib.Math.max.name ∈ am_tb ∧ Cond.initialized "java/lang/Math" ∈ am_tb ∧ Cond.code Lib.Math.max.name Lib.Math.max.code 2 (some .int) ∈ am_tb := by
  have h := am_wchk_ok (ws := [Cond.static Lib.Math.max.name, Cond.initialized "java/lang/Math", Cond.code Lib.Math.max.name Lib.Math.max.code 2 (some .int)]) (is := [155, 93, 156]) (by decide +kernel)
  exact ⟨h _ (by simp), h _ (by simp), h _ (by simp)⟩
theorem am_mminw : Cond.static Lib.Math.min.name ∈ am_tb ∧ Cond.initialized "java/lang/Math" ∈ am_tb ∧ Cond.code Lib.Math.min.name Lib.Math.min.code 2 (some .int) ∈ am_tb := by
  have h := am_wchk_ok (ws := [Cond.static Lib.Math.min.name, Cond.initialized "java/lang/Math", Cond.code Lib.Math.min.name Lib.Math.min.code 2 (some .int)]) (is := [152, 93, 153]) (by decide +kernel)
  exact ⟨h _ (by simp), h _ (by simp), h _ (by simp)⟩
theorem am_c0 : (∀ w ∈ u_ws "MarkInlines" am_T0 7, w ∈ am_tb) ∧ (∀ k, k < 7 → parseFieldDescriptor (am_T0 k).2.2.1 = some (am_ty0 k)) ∧ (∀ a, a < 7 → ∀ b, b < 7 → a ≠ b → (am_T0 a).2.1 ≠ (am_T0 b).2.1) ∧ am_fs 0 = (List.range 7).map (fun j => defaultValue (am_ty0 j)) :=
  ⟨am_wchk_ok (is := [765, 767, 769, 771, 773, 775, 777]) (by decide +kernel), by decide +kernel, by decide +kernel, by decide +kernel⟩
theorem am_c1 : (∀ w ∈ u_ws "MarkInlines$Definitions" am_T1 5, w ∈ am_tb) ∧ (∀ k, k < 5 → parseFieldDescriptor (am_T1 k).2.2.1 = some (am_ty1 k)) ∧ (∀ a, a < 5 → ∀ b, b < 5 → a ≠ b → (am_T1 a).2.1 ≠ (am_T1 b).2.1) ∧ am_fs 1 = (List.range 5).map (fun j => defaultValue (am_ty1 j)) :=
  ⟨am_wchk_ok (is := [570, 572, 574, 576, 578]) (by decide +kernel), by decide +kernel, by decide +kernel, by decide +kernel⟩
theorem am_c2 : (∀ w ∈ u_ws "MarkInlines$Links" am_T2 11, w ∈ am_tb) ∧ (∀ k, k < 11 → parseFieldDescriptor (am_T2 k).2.2.1 = some (am_ty2 k)) ∧ (∀ a, a < 11 → ∀ b, b < 11 → a ≠ b → (am_T2 a).2.1 ≠ (am_T2 b).2.1) ∧ am_fs 2 = (List.range 11).map (fun j => defaultValue (am_ty2 j)) :=
  ⟨am_wchk_ok (is := [639, 641, 643, 645, 647, 649, 651, 653, 655, 657, 659]) (by decide +kernel), by decide +kernel, by decide +kernel, by decide +kernel⟩
theorem am_c3 : (∀ w ∈ u_ws "MarkInlines$Marks" am_T3 8, w ∈ am_tb) ∧ (∀ k, k < 8 → parseFieldDescriptor (am_T3 k).2.2.1 = some (am_ty3 k)) ∧ (∀ a, a < 8 → ∀ b, b < 8 → a ≠ b → (am_T3 a).2.1 ≠ (am_T3 b).2.1) ∧ am_fs 3 = (List.range 8).map (fun j => defaultValue (am_ty3 j)) :=
  ⟨am_wchk_ok (is := [540, 542, 544, 546, 548, 550, 552, 554]) (by decide +kernel), by decide +kernel, by decide +kernel, by decide +kernel⟩
theorem am_c4 : (∀ w ∈ u_ws "MarkInlines$Nodes" am_T4 13, w ∈ am_tb) ∧ (∀ k, k < 13 → parseFieldDescriptor (am_T4 k).2.2.1 = some (am_ty4 k)) ∧ (∀ a, a < 13 → ∀ b, b < 13 → a ≠ b → (am_T4 a).2.1 ≠ (am_T4 b).2.1) ∧ am_fs 4 = (List.range 13).map (fun j => defaultValue (am_ty4 j)) :=
  ⟨am_wchk_ok (is := [715, 717, 719, 721, 723, 725, 727, 729, 731, 733, 735, 737, 739]) (by decide +kernel), by decide +kernel, by decide +kernel, by decide +kernel⟩
theorem am_c5 : (∀ w ∈ u_ws "MarkInlines$Reader" am_T5 8, w ∈ am_tb) ∧ (∀ k, k < 8 → parseFieldDescriptor (am_T5 k).2.2.1 = some (am_ty5 k)) ∧ (∀ a, a < 8 → ∀ b, b < 8 → a ≠ b → (am_T5 a).2.1 ≠ (am_T5 b).2.1) ∧ am_fs 5 = (List.range 8).map (fun j => defaultValue (am_ty5 j)) :=
  ⟨am_wchk_ok (is := [672, 674, 676, 678, 680, 682, 684, 686]) (by decide +kernel), by decide +kernel, by decide +kernel, by decide +kernel⟩
theorem am_c6 : (∀ w ∈ u_ws "MarkInlines$References" am_T6 2, w ∈ am_tb) ∧ (∀ k, k < 2 → parseFieldDescriptor (am_T6 k).2.2.1 = some (am_ty6 k)) ∧ (∀ a, a < 2 → ∀ b, b < 2 → a ≠ b → (am_T6 a).2.1 ≠ (am_T6 b).2.1) ∧ am_fs 6 = (List.range 2).map (fun j => defaultValue (am_ty6 j)) :=
  ⟨am_wchk_ok (is := [508, 510]) (by decide +kernel), by decide +kernel, by decide +kernel, by decide +kernel⟩
theorem am_c7 : (∀ w ∈ u_ws "MarkInlines$Row" am_T7 3, w ∈ am_tb) ∧ (∀ k, k < 3 → parseFieldDescriptor (am_T7 k).2.2.1 = some (am_ty7 k)) ∧ (∀ a, a < 3 → ∀ b, b < 3 → a ≠ b → (am_T7 a).2.1 ≠ (am_T7 b).2.1) ∧ am_fs 7 = (List.range 3).map (fun j => defaultValue (am_ty7 j)) :=
  ⟨am_wchk_ok (is := [139, 141, 143]) (by decide +kernel), by decide +kernel, by decide +kernel, by decide +kernel⟩
theorem am_c8 : (∀ w ∈ u_ws "MarkInlines$Runs" am_T8 8, w ∈ am_tb) ∧ (∀ k, k < 8 → parseFieldDescriptor (am_T8 k).2.2.1 = some (am_ty8 k)) ∧ (∀ a, a < 8 → ∀ b, b < 8 → a ≠ b → (am_T8 a).2.1 ≠ (am_T8 b).2.1) ∧ am_fs 8 = (List.range 8).map (fun j => defaultValue (am_ty8 j)) :=
  ⟨am_wchk_ok (is := [603, 605, 607, 609, 611, 613, 615, 617]) (by decide +kernel), by decide +kernel, by decide +kernel, by decide +kernel⟩
theorem am_c9 : (∀ w ∈ u_ws "MarkInlines$Scan" am_T9 1, w ∈ am_tb) ∧ (∀ k, k < 1 → parseFieldDescriptor (am_T9 k).2.2.1 = some (am_ty9 k)) ∧ (∀ a, a < 1 → ∀ b, b < 1 → a ≠ b → (am_T9 a).2.1 ≠ (am_T9 b).2.1) ∧ am_fs 9 = (List.range 1).map (fun j => defaultValue (am_ty9 j)) :=
  ⟨am_wchk_ok (is := [496]) (by decide +kernel), by decide +kernel, by decide +kernel, by decide +kernel⟩
theorem am_c10 : (∀ w ∈ u_ws "MarkInlines$Writer" am_T10 2, w ∈ am_tb) ∧ (∀ k, k < 2 → parseFieldDescriptor (am_T10 k).2.2.1 = some (am_ty10 k)) ∧ (∀ a, a < 2 → ∀ b, b < 2 → a ≠ b → (am_T10 a).2.1 ≠ (am_T10 b).2.1) ∧ am_fs 10 = (List.range 2).map (fun j => defaultValue (am_ty10 j)) :=
  ⟨am_wchk_ok (is := [753, 755]) (by decide +kernel), by decide +kernel, by decide +kernel, by decide +kernel⟩
theorem am_c11 : (∀ w ∈ u_ws "MarkInlinesModel" am_T11 58, w ∈ am_tb) ∧ (∀ k, k < 58 → parseFieldDescriptor (am_T11 k).2.2.1 = some (am_ty11 k)) ∧ (∀ a, a < 58 → ∀ b, b < 58 → a ≠ b → (am_T11 a).2.1 ≠ (am_T11 b).2.1) ∧ am_fs 11 = (List.range 58).map (fun j => defaultValue (am_ty11 j)) :=
  ⟨am_wchk_ok (is := [1451, 1453, 1455, 1457, 1459, 1461, 1463, 1465, 1467, 1469, 1471, 1473, 1475, 1477, 1479, 1481, 1483, 1485, 1487, 1489, 1491, 1493, 1495, 1497, 1499, 1501, 1503, 1505, 1507, 1509, 1511, 1513, 1515, 1517, 1519, 1521, 1523, 1525, 1527, 1529, 1531, 1533, 1535, 1537, 1539, 1541, 1543, 1545, 1547, 1549, 1551, 1553, 1555, 1557, 1559, 1561, 1563, 1565]) (by decide +kernel), by decide +kernel, by decide +kernel, by decide +kernel⟩
theorem am_c12 : (∀ w ∈ u_ws "java/lang/String" am_T12 2, w ∈ am_tb) ∧ (∀ k, k < 2 → parseFieldDescriptor (am_T12 k).2.2.1 = some (am_ty12 k)) ∧ (∀ a, a < 2 → ∀ b, b < 2 → a ≠ b → (am_T12 a).2.1 ≠ (am_T12 b).2.1) ∧ am_fs 12 = (List.range 2).map (fun j => defaultValue (am_ty12 j)) :=
  ⟨am_wchk_ok (is := [458, 460]) (by decide +kernel), by decide +kernel, by decide +kernel, by decide +kernel⟩
theorem am_Gok : am_G am_cls am_ty am_fs am_tb := by
  intro ci C T N h
  match ci, h with
  | 0, h => cases h; exact am_c0
  | 1, h => cases h; exact am_c1
  | 2, h => cases h; exact am_c2
  | 3, h => cases h; exact am_c3
  | 4, h => cases h; exact am_c4
  | 5, h => cases h; exact am_c5
  | 6, h => cases h; exact am_c6
  | 7, h => cases h; exact am_c7
  | 8, h => cases h; exact am_c8
  | 9, h => cases h; exact am_c9
  | 10, h => cases h; exact am_c10
  | 11, h => cases h; exact am_c11
  | 12, h => cases h; exact am_c12
  | n + 13, h => simp [am_cls] at h
