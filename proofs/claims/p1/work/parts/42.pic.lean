/-! THE PICTURE BEHIND THE CONSTRUCTORS (printed by wip/ev/fin.py). -/
noncomputable def ev_rp (n : Nat) (v : ev_V) (l : List ev_V) : List ev_V := match n with
  | 0 => l
  | n + 1 => v :: ev_rp n v l
noncomputable def ev_tn {n : Nat} (l r : ev_T (Option ev_C) n) : ev_T (Option ev_C) (n + 1) := (l, r)
noncomputable def ev_tl (c : Option ev_C) : ev_T (Option ev_C) 0 := c
noncomputable def ev_cel0 : Option ev_C := some (.inl (1, [(ev_ref 1), (ev_ref 3), (ev_ref 5), (ev_ref 7), (ev_ref 304), (ev_ref 310), ev_null, (ev_int 0), (ev_int 0), (ev_int 0)]))
noncomputable def ev_cel1 : Option ev_C := some (.inl (0, [(ev_ref 2), (ev_int 0)]))
noncomputable def ev_cel2 : Option ev_C := some (.inr (5, 64, (ev_rp 64 (ev_int 0) [])))
noncomputable def ev_cel3 : Option ev_C := some (.inl (0, [(ev_ref 4), (ev_int 0)]))
noncomputable def ev_cel4 : Option ev_C := some (.inr (5, 64, (ev_rp 64 (ev_int 0) [])))
noncomputable def ev_cel5 : Option ev_C := some (.inl (0, [(ev_ref 6), (ev_int 0)]))
noncomputable def ev_cel6 : Option ev_C := some (.inr (5, 64, (ev_rp 64 (ev_int 0) [])))
noncomputable def ev_cel7 : Option ev_C := some (.inl (2, ((ev_ref 8) :: (ev_int 169) :: (ev_ref 9) :: (ev_int 57) :: (ev_ref 10) :: (ev_int 0) :: (ev_int 0) :: (ev_ref 11) :: (ev_ref 12) :: (ev_ref 13) :: (ev_rp 6 (ev_int 0) [(ev_ref 14), (ev_ref 14), (ev_ref 21), (ev_ref 26), (ev_ref 17)]))))
noncomputable def ev_cel8 : Option ev_C := some (.inr (4, 256, (ev_null :: ev_null :: ev_null :: ev_null :: (ev_ref 61) :: (ev_rp 24 (ev_null) ((ev_ref 96) :: (ev_ref 141) :: ev_null :: ev_null :: (ev_ref 31) :: ev_null :: (ev_ref 176) :: ev_null :: (ev_ref 181) :: ev_null :: ev_null :: ev_null :: (ev_ref 156) :: ev_null :: ev_null :: ev_null :: ev_null :: (ev_ref 116) :: (ev_ref 281) :: (ev_ref 136) :: (ev_ref 106) :: (ev_rp 7 (ev_null) ((ev_ref 66) :: (ev_ref 111) :: (ev_ref 286) :: ev_null :: (ev_ref 211) :: ev_null :: (ev_ref 291) :: ev_null :: ev_null :: (ev_ref 261) :: (ev_rp 13 (ev_null) ((ev_ref 241) :: (ev_rp 6 (ev_null) ((ev_ref 221) :: ev_null :: (ev_ref 186) :: ev_null :: (ev_ref 196) :: ev_null :: ev_null :: (ev_ref 101) :: (ev_ref 271) :: ev_null :: (ev_ref 206) :: (ev_ref 146) :: (ev_rp 10 (ev_null) ((ev_ref 296) :: (ev_rp 13 (ev_null) ((ev_ref 36) :: ev_null :: (ev_ref 41) :: (ev_ref 256) :: ev_null :: ev_null :: (ev_ref 251) :: (ev_ref 151) :: ev_null :: ev_null :: ev_null :: ev_null :: (ev_ref 276) :: ev_null :: ev_null :: ev_null :: (ev_ref 51) :: ev_null :: ev_null :: (ev_ref 171) :: ev_null :: ev_null :: ev_null :: (ev_ref 191) :: ev_null :: ev_null :: ev_null :: (ev_ref 201) :: ev_null :: ev_null :: ev_null :: ev_null :: ev_null :: (ev_ref 121) :: ev_null :: (ev_ref 246) :: (ev_rp 8 (ev_null) ((ev_ref 131) :: ev_null :: (ev_ref 301) :: (ev_rp 10 (ev_null) ((ev_ref 166) :: (ev_rp 14 (ev_null) ((ev_ref 76) :: ev_null :: ev_null :: ev_null :: ev_null :: ev_null :: (ev_ref 81) :: ev_null :: ev_null :: (ev_ref 231) :: (ev_rp 9 (ev_null) ((ev_ref 266) :: (ev_rp 8 (ev_null) ((ev_ref 26) :: (ev_ref 236) :: (ev_rp 30 (ev_null) [(ev_ref 126)]))))))))))))))))))))))))))
noncomputable def ev_cel9 : Option ev_C := some (.inr (4, 128, ((ev_ref 21) :: (ev_ref 26) :: (ev_ref 31) :: (ev_ref 36) :: (ev_ref 41) :: (ev_ref 46) :: (ev_ref 51) :: (ev_ref 56) :: (ev_ref 61) :: (ev_ref 66) :: (ev_ref 71) :: (ev_ref 76) :: (ev_ref 81) :: (ev_ref 86) :: (ev_ref 91) :: (ev_ref 96) :: (ev_ref 101) :: (ev_ref 106) :: (ev_ref 111) :: (ev_ref 116) :: (ev_ref 121) :: (ev_ref 126) :: (ev_ref 131) :: (ev_ref 136) :: (ev_ref 141) :: (ev_ref 146) :: (ev_ref 151) :: (ev_ref 156) :: (ev_ref 161) :: (ev_ref 166) :: (ev_ref 171) :: (ev_ref 176) :: (ev_ref 181) :: (ev_ref 186) :: (ev_ref 191) :: (ev_ref 196) :: (ev_ref 201) :: (ev_ref 206) :: (ev_ref 211) :: (ev_ref 216) :: (ev_ref 221) :: (ev_ref 226) :: (ev_ref 231) :: (ev_ref 236) :: (ev_ref 241) :: (ev_ref 246) :: (ev_ref 251) :: (ev_ref 256) :: (ev_ref 261) :: (ev_ref 266) :: (ev_ref 271) :: (ev_ref 276) :: (ev_ref 281) :: (ev_ref 286) :: (ev_ref 291) :: (ev_ref 296) :: (ev_ref 301) :: (ev_rp 71 (ev_null) []))))
noncomputable def ev_cel10 : Option ev_C := some (.inr (4, 16, (ev_rp 16 (ev_null) [])))
noncomputable def ev_cel11 : Option ev_C := some (.inr (1, 512, (ev_rp 512 (ev_int 0) [])))
noncomputable def ev_cel12 : Option ev_C := some (.inr (3, 64, (ev_rp 64 (ev_null) [])))
noncomputable def ev_cel13 : Option ev_C := some (.inr (2, 16, (ev_rp 16 (ev_null) [])))
noncomputable def ev_cel14 : Option ev_C := some (.inl (8, [(ev_ref 15), ev_null, ev_null, ev_null, (ev_ref 14), ev_null, (ev_int 0), (ev_int 0), (ev_int 0), (ev_int 0), (ev_int 1), (ev_int 0)]))
noncomputable def ev_cel15 : Option ev_C := some (.inl (0, [(ev_ref 16), (ev_int 0)]))
noncomputable def ev_cel16 : Option ev_C := some (.inr (5, 1, [(ev_int 0)]))
noncomputable def ev_cel17 : Option ev_C := some (.inl (0, [(ev_ref 18), (ev_int 0)]))
noncomputable def ev_cel18 : Option ev_C := some (.inr (5, 1, [(ev_int 0)]))
noncomputable def ev_cel19 : Option ev_C := some (.inl (0, [(ev_ref 20), (ev_int 3)]))
noncomputable def ev_cel20 : Option ev_C := some (.inr (5, 3, [(ev_int 73), (ev_int 70), (ev_int 83)]))
noncomputable def ev_cel21 : Option ev_C := some (.inl (11, [(ev_ref 22), (ev_int 0), ev_null, ev_null, ev_null, (ev_int 0), ev_null, ev_null, (ev_int 0), (ev_int 0)]))
noncomputable def ev_cel22 : Option ev_C := some (.inl (0, [(ev_ref 23), (ev_int 3)]))
noncomputable def ev_cel23 : Option ev_C := some (.inr (5, 3, [(ev_int 73), (ev_int 70), (ev_int 83)]))
noncomputable def ev_cel24 : Option ev_C := some (.inl (0, [(ev_ref 25), (ev_int 4)]))
noncomputable def ev_cel25 : Option ev_C := some (.inr (5, 4, [(ev_int 72), (ev_int 79), (ev_int 77), (ev_int 69)]))
noncomputable def ev_cel26 : Option ev_C := some (.inl (11, [(ev_ref 27), (ev_int 1), ev_null, ev_null, ev_null, (ev_int 0), ev_null, ev_null, (ev_int 0), (ev_int 0)]))
noncomputable def ev_cel27 : Option ev_C := some (.inl (0, [(ev_ref 28), (ev_int 4)]))
noncomputable def ev_cel28 : Option ev_C := some (.inr (5, 4, [(ev_int 72), (ev_int 79), (ev_int 77), (ev_int 69)]))
noncomputable def ev_cel29 : Option ev_C := some (.inl (0, [(ev_ref 30), (ev_int 1)]))
noncomputable def ev_cel30 : Option ev_C := some (.inr (5, 1, [(ev_int 33)]))
noncomputable def ev_cel31 : Option ev_C := some (.inl (11, [(ev_ref 32), (ev_int 2), ev_null, ev_null, ev_null, (ev_int 0), ev_null, ev_null, (ev_int 0), (ev_int 1)]))
noncomputable def ev_cel32 : Option ev_C := some (.inl (0, [(ev_ref 33), (ev_int 1)]))
noncomputable def ev_cel33 : Option ev_C := some (.inr (5, 1, [(ev_int 33)]))
noncomputable def ev_cel34 : Option ev_C := some (.inl (0, [(ev_ref 35), (ev_int 1)]))
noncomputable def ev_cel35 : Option ev_C := some (.inr (5, 1, [(ev_int 123)]))
noncomputable def ev_cel36 : Option ev_C := some (.inl (11, [(ev_ref 37), (ev_int 3), ev_null, ev_null, ev_null, (ev_int 0), ev_null, ev_null, (ev_int 0), (ev_int 2)]))
noncomputable def ev_cel37 : Option ev_C := some (.inl (0, [(ev_ref 38), (ev_int 1)]))
noncomputable def ev_cel38 : Option ev_C := some (.inr (5, 1, [(ev_int 123)]))
noncomputable def ev_cel39 : Option ev_C := some (.inl (0, [(ev_ref 40), (ev_int 1)]))
noncomputable def ev_cel40 : Option ev_C := some (.inr (5, 1, [(ev_int 125)]))
noncomputable def ev_cel41 : Option ev_C := some (.inl (11, [(ev_ref 42), (ev_int 4), ev_null, ev_null, ev_null, (ev_int 0), ev_null, ev_null, (ev_int 0), (ev_int 3)]))
noncomputable def ev_cel42 : Option ev_C := some (.inl (0, [(ev_ref 43), (ev_int 1)]))
noncomputable def ev_cel43 : Option ev_C := some (.inr (5, 1, [(ev_int 125)]))
noncomputable def ev_cel44 : Option ev_C := some (.inl (0, [(ev_ref 45), (ev_int 4)]))
noncomputable def ev_cel45 : Option ev_C := some (.inr (5, 4, [(ev_int 99), (ev_int 97), (ev_int 115), (ev_int 101)]))
noncomputable def ev_cel46 : Option ev_C := some (.inl (11, [(ev_ref 47), (ev_int 5), ev_null, ev_null, ev_null, (ev_int 0), ev_null, ev_null, (ev_int 0), (ev_int 4)]))
noncomputable def ev_cel47 : Option ev_C := some (.inl (0, [(ev_ref 48), (ev_int 4)]))
noncomputable def ev_cel48 : Option ev_C := some (.inr (5, 4, [(ev_int 99), (ev_int 97), (ev_int 115), (ev_int 101)]))
noncomputable def ev_cel49 : Option ev_C := some (.inl (0, [(ev_ref 50), (ev_int 2)]))
noncomputable def ev_cel50 : Option ev_C := some (.inr (5, 2, [(ev_int 100), (ev_int 111)]))
noncomputable def ev_cel51 : Option ev_C := some (.inl (11, [(ev_ref 52), (ev_int 6), ev_null, ev_null, ev_null, (ev_int 0), ev_null, ev_null, (ev_int 0), (ev_int 5)]))
noncomputable def ev_cel52 : Option ev_C := some (.inl (0, [(ev_ref 53), (ev_int 2)]))
noncomputable def ev_cel53 : Option ev_C := some (.inr (5, 2, [(ev_int 100), (ev_int 111)]))
noncomputable def ev_cel54 : Option ev_C := some (.inl (0, [(ev_ref 55), (ev_int 4)]))
noncomputable def ev_cel55 : Option ev_C := some (.inr (5, 4, [(ev_int 100), (ev_int 111), (ev_int 110), (ev_int 101)]))
noncomputable def ev_cel56 : Option ev_C := some (.inl (11, [(ev_ref 57), (ev_int 7), ev_null, ev_null, ev_null, (ev_int 0), ev_null, ev_null, (ev_int 0), (ev_int 6)]))
noncomputable def ev_cel57 : Option ev_C := some (.inl (0, [(ev_ref 58), (ev_int 4)]))
noncomputable def ev_cel58 : Option ev_C := some (.inr (5, 4, [(ev_int 100), (ev_int 111), (ev_int 110), (ev_int 101)]))
noncomputable def ev_cel59 : Option ev_C := some (.inl (0, [(ev_ref 60), (ev_int 4)]))
noncomputable def ev_cel60 : Option ev_C := some (.inr (5, 4, [(ev_int 101), (ev_int 108), (ev_int 105), (ev_int 102)]))
noncomputable def ev_cel61 : Option ev_C := some (.inl (11, [(ev_ref 62), (ev_int 8), ev_null, ev_null, ev_null, (ev_int 0), ev_null, ev_null, (ev_int 0), (ev_int 7)]))
noncomputable def ev_cel62 : Option ev_C := some (.inl (0, [(ev_ref 63), (ev_int 4)]))
noncomputable def ev_cel63 : Option ev_C := some (.inr (5, 4, [(ev_int 101), (ev_int 108), (ev_int 105), (ev_int 102)]))
noncomputable def ev_cel64 : Option ev_C := some (.inl (0, [(ev_ref 65), (ev_int 4)]))
noncomputable def ev_cel65 : Option ev_C := some (.inr (5, 4, [(ev_int 101), (ev_int 108), (ev_int 115), (ev_int 101)]))
noncomputable def ev_cel66 : Option ev_C := some (.inl (11, [(ev_ref 67), (ev_int 9), ev_null, ev_null, ev_null, (ev_int 0), ev_null, ev_null, (ev_int 0), (ev_int 8)]))
noncomputable def ev_cel67 : Option ev_C := some (.inl (0, [(ev_ref 68), (ev_int 4)]))
noncomputable def ev_cel68 : Option ev_C := some (.inr (5, 4, [(ev_int 101), (ev_int 108), (ev_int 115), (ev_int 101)]))
noncomputable def ev_cel69 : Option ev_C := some (.inl (0, [(ev_ref 70), (ev_int 4)]))
noncomputable def ev_cel70 : Option ev_C := some (.inr (5, 4, [(ev_int 101), (ev_int 115), (ev_int 97), (ev_int 99)]))
noncomputable def ev_cel71 : Option ev_C := some (.inl (11, [(ev_ref 72), (ev_int 10), ev_null, ev_null, ev_null, (ev_int 0), ev_null, ev_null, (ev_int 0), (ev_int 9)]))
noncomputable def ev_cel72 : Option ev_C := some (.inl (0, [(ev_ref 73), (ev_int 4)]))
noncomputable def ev_cel73 : Option ev_C := some (.inr (5, 4, [(ev_int 101), (ev_int 115), (ev_int 97), (ev_int 99)]))
noncomputable def ev_cel74 : Option ev_C := some (.inl (0, [(ev_ref 75), (ev_int 2)]))
noncomputable def ev_cel75 : Option ev_C := some (.inr (5, 2, [(ev_int 102), (ev_int 105)]))
noncomputable def ev_cel76 : Option ev_C := some (.inl (11, [(ev_ref 77), (ev_int 11), ev_null, ev_null, ev_null, (ev_int 0), ev_null, ev_null, (ev_int 0), (ev_int 10)]))
noncomputable def ev_cel77 : Option ev_C := some (.inl (0, [(ev_ref 78), (ev_int 2)]))
noncomputable def ev_cel78 : Option ev_C := some (.inr (5, 2, [(ev_int 102), (ev_int 105)]))
noncomputable def ev_cel79 : Option ev_C := some (.inl (0, [(ev_ref 80), (ev_int 3)]))
noncomputable def ev_cel80 : Option ev_C := some (.inr (5, 3, [(ev_int 102), (ev_int 111), (ev_int 114)]))
noncomputable def ev_cel81 : Option ev_C := some (.inl (11, [(ev_ref 82), (ev_int 12), ev_null, ev_null, ev_null, (ev_int 0), ev_null, ev_null, (ev_int 0), (ev_int 11)]))
noncomputable def ev_cel82 : Option ev_C := some (.inl (0, [(ev_ref 83), (ev_int 3)]))
noncomputable def ev_cel83 : Option ev_C := some (.inr (5, 3, [(ev_int 102), (ev_int 111), (ev_int 114)]))
noncomputable def ev_cel84 : Option ev_C := some (.inl (0, [(ev_ref 85), (ev_int 2)]))
noncomputable def ev_cel85 : Option ev_C := some (.inr (5, 2, [(ev_int 105), (ev_int 102)]))
noncomputable def ev_cel86 : Option ev_C := some (.inl (11, [(ev_ref 87), (ev_int 13), ev_null, ev_null, ev_null, (ev_int 0), ev_null, ev_null, (ev_int 0), (ev_int 12)]))
noncomputable def ev_cel87 : Option ev_C := some (.inl (0, [(ev_ref 88), (ev_int 2)]))
noncomputable def ev_cel88 : Option ev_C := some (.inr (5, 2, [(ev_int 105), (ev_int 102)]))
noncomputable def ev_cel89 : Option ev_C := some (.inl (0, [(ev_ref 90), (ev_int 2)]))
noncomputable def ev_cel90 : Option ev_C := some (.inr (5, 2, [(ev_int 105), (ev_int 110)]))
noncomputable def ev_cel91 : Option ev_C := some (.inl (11, [(ev_ref 92), (ev_int 14), ev_null, ev_null, ev_null, (ev_int 0), ev_null, ev_null, (ev_int 0), (ev_int 13)]))
noncomputable def ev_cel92 : Option ev_C := some (.inl (0, [(ev_ref 93), (ev_int 2)]))
noncomputable def ev_cel93 : Option ev_C := some (.inr (5, 2, [(ev_int 105), (ev_int 110)]))
noncomputable def ev_cel94 : Option ev_C := some (.inl (0, [(ev_ref 95), (ev_int 4)]))
noncomputable def ev_cel95 : Option ev_C := some (.inr (5, 4, [(ev_int 116), (ev_int 104), (ev_int 101), (ev_int 110)]))
noncomputable def ev_cel96 : Option ev_C := some (.inl (11, [(ev_ref 97), (ev_int 15), ev_null, (ev_ref 86), ev_null, (ev_int 0), ev_null, ev_null, (ev_int 0), (ev_int 14)]))
noncomputable def ev_cel97 : Option ev_C := some (.inl (0, [(ev_ref 98), (ev_int 4)]))
noncomputable def ev_cel98 : Option ev_C := some (.inr (5, 4, [(ev_int 116), (ev_int 104), (ev_int 101), (ev_int 110)]))
noncomputable def ev_cel99 : Option ev_C := some (.inl (0, [(ev_ref 100), (ev_int 5)]))
noncomputable def ev_cel100 : Option ev_C := some (.inr (5, 5, [(ev_int 117), (ev_int 110), (ev_int 116), (ev_int 105), (ev_int 108)]))
noncomputable def ev_cel101 : Option ev_C := some (.inl (11, [(ev_ref 102), (ev_int 16), ev_null, ev_null, ev_null, (ev_int 0), ev_null, ev_null, (ev_int 0), (ev_int 15)]))
noncomputable def ev_cel102 : Option ev_C := some (.inl (0, [(ev_ref 103), (ev_int 5)]))
noncomputable def ev_cel103 : Option ev_C := some (.inr (5, 5, [(ev_int 117), (ev_int 110), (ev_int 116), (ev_int 105), (ev_int 108)]))
noncomputable def ev_cel104 : Option ev_C := some (.inl (0, [(ev_ref 105), (ev_int 5)]))
noncomputable def ev_cel105 : Option ev_C := some (.inr (5, 5, [(ev_int 119), (ev_int 104), (ev_int 105), (ev_int 108), (ev_int 101)]))
noncomputable def ev_cel106 : Option ev_C := some (.inl (11, [(ev_ref 107), (ev_int 17), ev_null, ev_null, ev_null, (ev_int 0), ev_null, ev_null, (ev_int 0), (ev_int 16)]))
noncomputable def ev_cel107 : Option ev_C := some (.inl (0, [(ev_ref 108), (ev_int 5)]))
noncomputable def ev_cel108 : Option ev_C := some (.inr (5, 5, [(ev_int 119), (ev_int 104), (ev_int 105), (ev_int 108), (ev_int 101)]))
noncomputable def ev_cel109 : Option ev_C := some (.inl (0, [(ev_ref 110), (ev_int 1)]))
noncomputable def ev_cel110 : Option ev_C := some (.inr (5, 1, [(ev_int 58)]))
noncomputable def ev_cel111 : Option ev_C := some (.inl (11, [(ev_ref 112), (ev_int 18), ev_null, ev_null, ev_null, (ev_int 0), ev_null, ev_null, (ev_int 1), (ev_int 0)]))
noncomputable def ev_cel112 : Option ev_C := some (.inl (0, [(ev_ref 113), (ev_int 1)]))
noncomputable def ev_cel113 : Option ev_C := some (.inr (5, 1, [(ev_int 58)]))
noncomputable def ev_cel114 : Option ev_C := some (.inl (0, [(ev_ref 115), (ev_int 1)]))
noncomputable def ev_cel115 : Option ev_C := some (.inr (5, 1, [(ev_int 46)]))
noncomputable def ev_cel116 : Option ev_C := some (.inl (11, [(ev_ref 117), (ev_int 19), ev_null, ev_null, ev_null, (ev_int 0), ev_null, ev_null, (ev_int 2), (ev_int 0)]))
noncomputable def ev_cel117 : Option ev_C := some (.inl (0, [(ev_ref 118), (ev_int 1)]))
noncomputable def ev_cel118 : Option ev_C := some (.inr (5, 1, [(ev_int 46)]))
noncomputable def ev_cel119 : Option ev_C := some (.inl (0, [(ev_ref 120), (ev_int 4)]))
noncomputable def ev_cel120 : Option ev_C := some (.inr (5, 4, [(ev_int 101), (ev_int 118), (ev_int 97), (ev_int 108)]))
noncomputable def ev_cel121 : Option ev_C := some (.inl (11, [(ev_ref 122), (ev_int 20), ev_null, ev_null, ev_null, (ev_int 0), ev_null, ev_null, (ev_int 3), (ev_int 0)]))
noncomputable def ev_cel122 : Option ev_C := some (.inl (0, [(ev_ref 123), (ev_int 4)]))
noncomputable def ev_cel123 : Option ev_C := some (.inr (5, 4, [(ev_int 101), (ev_int 118), (ev_int 97), (ev_int 108)]))
noncomputable def ev_cel124 : Option ev_C := some (.inl (0, [(ev_ref 125), (ev_int 5)]))
noncomputable def ev_cel125 : Option ev_C := some (.inr (5, 5, [(ev_int 98), (ev_int 114), (ev_int 101), (ev_int 97), (ev_int 107)]))
noncomputable def ev_cel126 : Option ev_C := some (.inl (11, [(ev_ref 127), (ev_int 21), ev_null, ev_null, ev_null, (ev_int 0), ev_null, ev_null, (ev_int 4), (ev_int 0)]))
noncomputable def ev_cel127 : Option ev_C := some (.inl (0, [(ev_ref 128), (ev_int 5)]))
noncomputable def ev_cel128 : Option ev_C := some (.inr (5, 5, [(ev_int 98), (ev_int 114), (ev_int 101), (ev_int 97), (ev_int 107)]))
noncomputable def ev_cel129 : Option ev_C := some (.inl (0, [(ev_ref 130), (ev_int 8)]))
noncomputable def ev_cel130 : Option ev_C := some (.inr (5, 8, [(ev_int 99), (ev_int 111), (ev_int 110), (ev_int 116), (ev_int 105), (ev_int 110), (ev_int 117), (ev_int 101)]))
noncomputable def ev_cel131 : Option ev_C := some (.inl (11, [(ev_ref 132), (ev_int 22), ev_null, ev_null, ev_null, (ev_int 0), ev_null, ev_null, (ev_int 5), (ev_int 0)]))
noncomputable def ev_cel132 : Option ev_C := some (.inl (0, [(ev_ref 133), (ev_int 8)]))
noncomputable def ev_cel133 : Option ev_C := some (.inr (5, 8, [(ev_int 99), (ev_int 111), (ev_int 110), (ev_int 116), (ev_int 105), (ev_int 110), (ev_int 117), (ev_int 101)]))
noncomputable def ev_cel134 : Option ev_C := some (.inl (0, [(ev_ref 135), (ev_int 6)]))
noncomputable def ev_cel135 : Option ev_C := some (.inr (5, 6, [(ev_int 114), (ev_int 101), (ev_int 116), (ev_int 117), (ev_int 114), (ev_int 110)]))
noncomputable def ev_cel136 : Option ev_C := some (.inl (11, [(ev_ref 137), (ev_int 23), ev_null, (ev_ref 46), ev_null, (ev_int 0), ev_null, ev_null, (ev_int 6), (ev_int 0)]))
noncomputable def ev_cel137 : Option ev_C := some (.inl (0, [(ev_ref 138), (ev_int 6)]))
noncomputable def ev_cel138 : Option ev_C := some (.inr (5, 6, [(ev_int 114), (ev_int 101), (ev_int 116), (ev_int 117), (ev_int 114), (ev_int 110)]))
noncomputable def ev_cel139 : Option ev_C := some (.inl (0, [(ev_ref 140), (ev_int 4)]))
noncomputable def ev_cel140 : Option ev_C := some (.inr (5, 4, [(ev_int 101), (ev_int 120), (ev_int 105), (ev_int 116)]))
noncomputable def ev_cel141 : Option ev_C := some (.inl (11, [(ev_ref 142), (ev_int 24), ev_null, ev_null, ev_null, (ev_int 0), ev_null, ev_null, (ev_int 7), (ev_int 0)]))
noncomputable def ev_cel142 : Option ev_C := some (.inl (0, [(ev_ref 143), (ev_int 4)]))
noncomputable def ev_cel143 : Option ev_C := some (.inr (5, 4, [(ev_int 101), (ev_int 120), (ev_int 105), (ev_int 116)]))
noncomputable def ev_cel144 : Option ev_C := some (.inl (0, [(ev_ref 145), (ev_int 3)]))
noncomputable def ev_cel145 : Option ev_C := some (.inr (5, 3, [(ev_int 115), (ev_int 101), (ev_int 116)]))
noncomputable def ev_cel146 : Option ev_C := some (.inl (11, [(ev_ref 147), (ev_int 25), ev_null, ev_null, ev_null, (ev_int 0), ev_null, ev_null, (ev_int 8), (ev_int 0)]))
noncomputable def ev_cel147 : Option ev_C := some (.inl (0, [(ev_ref 148), (ev_int 3)]))
noncomputable def ev_cel148 : Option ev_C := some (.inr (5, 3, [(ev_int 115), (ev_int 101), (ev_int 116)]))
noncomputable def ev_cel149 : Option ev_C := some (.inl (0, [(ev_ref 150), (ev_int 5)]))
noncomputable def ev_cel150 : Option ev_C := some (.inr (5, 5, [(ev_int 115), (ev_int 104), (ev_int 105), (ev_int 102), (ev_int 116)]))
noncomputable def ev_cel151 : Option ev_C := some (.inl (11, [(ev_ref 152), (ev_int 26), ev_null, (ev_ref 56), ev_null, (ev_int 0), ev_null, ev_null, (ev_int 9), (ev_int 0)]))
noncomputable def ev_cel152 : Option ev_C := some (.inl (0, [(ev_ref 153), (ev_int 5)]))
noncomputable def ev_cel153 : Option ev_C := some (.inr (5, 5, [(ev_int 115), (ev_int 104), (ev_int 105), (ev_int 102), (ev_int 116)]))
noncomputable def ev_cel154 : Option ev_C := some (.inl (0, [(ev_ref 155), (ev_int 5)]))
noncomputable def ev_cel155 : Option ev_C := some (.inr (5, 5, [(ev_int 117), (ev_int 110), (ev_int 115), (ev_int 101), (ev_int 116)]))
noncomputable def ev_cel156 : Option ev_C := some (.inl (11, [(ev_ref 157), (ev_int 27), ev_null, ev_null, ev_null, (ev_int 0), ev_null, ev_null, (ev_int 10), (ev_int 0)]))
noncomputable def ev_cel157 : Option ev_C := some (.inl (0, [(ev_ref 158), (ev_int 5)]))
noncomputable def ev_cel158 : Option ev_C := some (.inr (5, 5, [(ev_int 117), (ev_int 110), (ev_int 115), (ev_int 101), (ev_int 116)]))
noncomputable def ev_cel159 : Option ev_C := some (.inl (0, [(ev_ref 160), (ev_int 8)]))
noncomputable def ev_cel160 : Option ev_C := some (.inr (5, 8, [(ev_int 114), (ev_int 101), (ev_int 97), (ev_int 100), (ev_int 111), (ev_int 110), (ev_int 108), (ev_int 121)]))
noncomputable def ev_cel161 : Option ev_C := some (.inl (11, [(ev_ref 162), (ev_int 28), ev_null, ev_null, ev_null, (ev_int 0), ev_null, ev_null, (ev_int 11), (ev_int 0)]))
noncomputable def ev_cel162 : Option ev_C := some (.inl (0, [(ev_ref 163), (ev_int 8)]))
noncomputable def ev_cel163 : Option ev_C := some (.inr (5, 8, [(ev_int 114), (ev_int 101), (ev_int 97), (ev_int 100), (ev_int 111), (ev_int 110), (ev_int 108), (ev_int 121)]))
noncomputable def ev_cel164 : Option ev_C := some (.inl (0, [(ev_ref 165), (ev_int 6)]))
noncomputable def ev_cel165 : Option ev_C := some (.inr (5, 6, [(ev_int 101), (ev_int 120), (ev_int 112), (ev_int 111), (ev_int 114), (ev_int 116)]))
noncomputable def ev_cel166 : Option ev_C := some (.inl (11, [(ev_ref 167), (ev_int 29), ev_null, ev_null, ev_null, (ev_int 0), ev_null, ev_null, (ev_int 12), (ev_int 0)]))
noncomputable def ev_cel167 : Option ev_C := some (.inl (0, [(ev_ref 168), (ev_int 6)]))
noncomputable def ev_cel168 : Option ev_C := some (.inr (5, 6, [(ev_int 101), (ev_int 120), (ev_int 112), (ev_int 111), (ev_int 114), (ev_int 116)]))
noncomputable def ev_cel169 : Option ev_C := some (.inl (0, [(ev_ref 170), (ev_int 4)]))
noncomputable def ev_cel170 : Option ev_C := some (.inr (5, 4, [(ev_int 116), (ev_int 114), (ev_int 117), (ev_int 101)]))
noncomputable def ev_cel171 : Option ev_C := some (.inl (11, [(ev_ref 172), (ev_int 30), ev_null, ev_null, ev_null, (ev_int 0), ev_null, ev_null, (ev_int 13), (ev_int 0)]))
noncomputable def ev_cel172 : Option ev_C := some (.inl (0, [(ev_ref 173), (ev_int 4)]))
noncomputable def ev_cel173 : Option ev_C := some (.inr (5, 4, [(ev_int 116), (ev_int 114), (ev_int 117), (ev_int 101)]))
noncomputable def ev_cel174 : Option ev_C := some (.inl (0, [(ev_ref 175), (ev_int 5)]))
noncomputable def ev_cel175 : Option ev_C := some (.inr (5, 5, [(ev_int 102), (ev_int 97), (ev_int 108), (ev_int 115), (ev_int 101)]))
noncomputable def ev_cel176 : Option ev_C := some (.inl (11, [(ev_ref 177), (ev_int 31), ev_null, ev_null, ev_null, (ev_int 0), ev_null, ev_null, (ev_int 14), (ev_int 0)]))
noncomputable def ev_cel177 : Option ev_C := some (.inl (0, [(ev_ref 178), (ev_int 5)]))
noncomputable def ev_cel178 : Option ev_C := some (.inr (5, 5, [(ev_int 102), (ev_int 97), (ev_int 108), (ev_int 115), (ev_int 101)]))
noncomputable def ev_cel179 : Option ev_C := some (.inl (0, [(ev_ref 180), (ev_int 4)]))
noncomputable def ev_cel180 : Option ev_C := some (.inr (5, 4, [(ev_int 101), (ev_int 99), (ev_int 104), (ev_int 111)]))
noncomputable def ev_cel181 : Option ev_C := some (.inl (11, [(ev_ref 182), (ev_int 32), ev_null, (ev_ref 91), ev_null, (ev_int 0), ev_null, ev_null, (ev_int 15), (ev_int 0)]))
noncomputable def ev_cel182 : Option ev_C := some (.inl (0, [(ev_ref 183), (ev_int 4)]))
noncomputable def ev_cel183 : Option ev_C := some (.inr (5, 4, [(ev_int 101), (ev_int 99), (ev_int 104), (ev_int 111)]))
noncomputable def ev_cel184 : Option ev_C := some (.inl (0, [(ev_ref 185), (ev_int 6)]))
noncomputable def ev_cel185 : Option ev_C := some (.inr (5, 6, [(ev_int 112), (ev_int 114), (ev_int 105), (ev_int 110), (ev_int 116), (ev_int 102)]))
noncomputable def ev_cel186 : Option ev_C := some (.inl (11, [(ev_ref 187), (ev_int 33), ev_null, ev_null, ev_null, (ev_int 0), ev_null, ev_null, (ev_int 16), (ev_int 0)]))
noncomputable def ev_cel187 : Option ev_C := some (.inl (0, [(ev_ref 188), (ev_int 6)]))
noncomputable def ev_cel188 : Option ev_C := some (.inr (5, 6, [(ev_int 112), (ev_int 114), (ev_int 105), (ev_int 110), (ev_int 116), (ev_int 102)]))
noncomputable def ev_cel189 : Option ev_C := some (.inl (0, [(ev_ref 190), (ev_int 4)]))
noncomputable def ev_cel190 : Option ev_C := some (.inr (5, 4, [(ev_int 116), (ev_int 101), (ev_int 115), (ev_int 116)]))
noncomputable def ev_cel191 : Option ev_C := some (.inl (11, [(ev_ref 192), (ev_int 34), ev_null, ev_null, ev_null, (ev_int 0), ev_null, ev_null, (ev_int 17), (ev_int 0)]))
noncomputable def ev_cel192 : Option ev_C := some (.inl (0, [(ev_ref 193), (ev_int 4)]))
noncomputable def ev_cel193 : Option ev_C := some (.inr (5, 4, [(ev_int 116), (ev_int 101), (ev_int 115), (ev_int 116)]))
noncomputable def ev_cel194 : Option ev_C := some (.inl (0, [(ev_ref 195), (ev_int 1)]))
noncomputable def ev_cel195 : Option ev_C := some (.inr (5, 1, [(ev_int 91)]))
noncomputable def ev_cel196 : Option ev_C := some (.inl (11, [(ev_ref 197), (ev_int 35), ev_null, ev_null, ev_null, (ev_int 0), ev_null, ev_null, (ev_int 18), (ev_int 0)]))
noncomputable def ev_cel197 : Option ev_C := some (.inl (0, [(ev_ref 198), (ev_int 1)]))
noncomputable def ev_cel198 : Option ev_C := some (.inr (5, 1, [(ev_int 91)]))
noncomputable def ev_cel199 : Option ev_C := some (.inl (0, [(ev_ref 200), (ev_int 4)]))
noncomputable def ev_cel200 : Option ev_C := some (.inr (5, 4, [(ev_int 114), (ev_int 101), (ev_int 97), (ev_int 100)]))
noncomputable def ev_cel201 : Option ev_C := some (.inl (11, [(ev_ref 202), (ev_int 36), ev_null, ev_null, ev_null, (ev_int 0), ev_null, ev_null, (ev_int 19), (ev_int 0)]))
noncomputable def ev_cel202 : Option ev_C := some (.inl (0, [(ev_ref 203), (ev_int 4)]))
noncomputable def ev_cel203 : Option ev_C := some (.inr (5, 4, [(ev_int 114), (ev_int 101), (ev_int 97), (ev_int 100)]))
noncomputable def ev_cel204 : Option ev_C := some (.inl (0, [(ev_ref 205), (ev_int 2)]))
noncomputable def ev_cel205 : Option ev_C := some (.inr (5, 2, [(ev_int 99), (ev_int 100)]))
noncomputable def ev_cel206 : Option ev_C := some (.inl (11, [(ev_ref 207), (ev_int 37), ev_null, ev_null, ev_null, (ev_int 0), ev_null, ev_null, (ev_int 20), (ev_int 0)]))
noncomputable def ev_cel207 : Option ev_C := some (.inl (0, [(ev_ref 208), (ev_int 2)]))
noncomputable def ev_cel208 : Option ev_C := some (.inr (5, 2, [(ev_int 99), (ev_int 100)]))
noncomputable def ev_cel209 : Option ev_C := some (.inl (0, [(ev_ref 210), (ev_int 3)]))
noncomputable def ev_cel210 : Option ev_C := some (.inr (5, 3, [(ev_int 112), (ev_int 119), (ev_int 100)]))
noncomputable def ev_cel211 : Option ev_C := some (.inl (11, [(ev_ref 212), (ev_int 38), ev_null, ev_null, ev_null, (ev_int 0), ev_null, ev_null, (ev_int 21), (ev_int 0)]))
noncomputable def ev_cel212 : Option ev_C := some (.inl (0, [(ev_ref 213), (ev_int 3)]))
noncomputable def ev_cel213 : Option ev_C := some (.inr (5, 3, [(ev_int 112), (ev_int 119), (ev_int 100)]))
noncomputable def ev_cel214 : Option ev_C := some (.inl (0, [(ev_ref 215), (ev_int 5)]))
noncomputable def ev_cel215 : Option ev_C := some (.inr (5, 5, [(ev_int 97), (ev_int 108), (ev_int 105), (ev_int 97), (ev_int 115)]))
noncomputable def ev_cel216 : Option ev_C := some (.inl (11, [(ev_ref 217), (ev_int 39), ev_null, (ev_ref 71), ev_null, (ev_int 0), ev_null, ev_null, (ev_int 22), (ev_int 0)]))
noncomputable def ev_cel217 : Option ev_C := some (.inl (0, [(ev_ref 218), (ev_int 5)]))
noncomputable def ev_cel218 : Option ev_C := some (.inr (5, 5, [(ev_int 97), (ev_int 108), (ev_int 105), (ev_int 97), (ev_int 115)]))
noncomputable def ev_cel219 : Option ev_C := some (.inl (0, [(ev_ref 220), (ev_int 7)]))
noncomputable def ev_cel220 : Option ev_C := some (.inr (5, 7, [(ev_int 117), (ev_int 110), (ev_int 97), (ev_int 108), (ev_int 105), (ev_int 97), (ev_int 115)]))
noncomputable def ev_cel221 : Option ev_C := some (.inl (11, [(ev_ref 222), (ev_int 40), ev_null, ev_null, ev_null, (ev_int 0), ev_null, ev_null, (ev_int 23), (ev_int 0)]))
noncomputable def ev_cel222 : Option ev_C := some (.inl (0, [(ev_ref 223), (ev_int 7)]))
noncomputable def ev_cel223 : Option ev_C := some (.inr (5, 7, [(ev_int 117), (ev_int 110), (ev_int 97), (ev_int 108), (ev_int 105), (ev_int 97), (ev_int 115)]))
noncomputable def ev_cel224 : Option ev_C := some (.inl (0, [(ev_ref 225), (ev_int 3)]))
noncomputable def ev_cel225 : Option ev_C := some (.inr (5, 3, [(ev_int 99), (ev_int 97), (ev_int 116)]))
noncomputable def ev_cel226 : Option ev_C := some (.inl (11, [(ev_ref 227), (ev_int 41), ev_null, (ev_ref 21), ev_null, (ev_int 0), ev_null, ev_null, (ev_int 24), (ev_int 0)]))
noncomputable def ev_cel227 : Option ev_C := some (.inl (0, [(ev_ref 228), (ev_int 3)]))
noncomputable def ev_cel228 : Option ev_C := some (.inr (5, 3, [(ev_int 99), (ev_int 97), (ev_int 116)]))
noncomputable def ev_cel229 : Option ev_C := some (.inl (0, [(ev_ref 230), (ev_int 2)]))
noncomputable def ev_cel230 : Option ev_C := some (.inr (5, 2, [(ev_int 119), (ev_int 99)]))
noncomputable def ev_cel231 : Option ev_C := some (.inl (11, [(ev_ref 232), (ev_int 42), ev_null, ev_null, ev_null, (ev_int 0), ev_null, ev_null, (ev_int 25), (ev_int 0)]))
noncomputable def ev_cel232 : Option ev_C := some (.inl (0, [(ev_ref 233), (ev_int 2)]))
noncomputable def ev_cel233 : Option ev_C := some (.inr (5, 2, [(ev_int 119), (ev_int 99)]))
noncomputable def ev_cel234 : Option ev_C := some (.inl (0, [(ev_ref 235), (ev_int 4)]))
noncomputable def ev_cel235 : Option ev_C := some (.inr (5, 4, [(ev_int 104), (ev_int 101), (ev_int 97), (ev_int 100)]))
noncomputable def ev_cel236 : Option ev_C := some (.inl (11, [(ev_ref 237), (ev_int 43), ev_null, ev_null, ev_null, (ev_int 0), ev_null, ev_null, (ev_int 26), (ev_int 0)]))
noncomputable def ev_cel237 : Option ev_C := some (.inl (0, [(ev_ref 238), (ev_int 4)]))
noncomputable def ev_cel238 : Option ev_C := some (.inr (5, 4, [(ev_int 104), (ev_int 101), (ev_int 97), (ev_int 100)]))
noncomputable def ev_cel239 : Option ev_C := some (.inl (0, [(ev_ref 240), (ev_int 4)]))
noncomputable def ev_cel240 : Option ev_C := some (.inr (5, 4, [(ev_int 116), (ev_int 97), (ev_int 105), (ev_int 108)]))
noncomputable def ev_cel241 : Option ev_C := some (.inl (11, [(ev_ref 242), (ev_int 44), ev_null, (ev_ref 216), ev_null, (ev_int 0), ev_null, ev_null, (ev_int 27), (ev_int 0)]))
noncomputable def ev_cel242 : Option ev_C := some (.inl (0, [(ev_ref 243), (ev_int 4)]))
noncomputable def ev_cel243 : Option ev_C := some (.inr (5, 4, [(ev_int 116), (ev_int 97), (ev_int 105), (ev_int 108)]))
noncomputable def ev_cel244 : Option ev_C := some (.inl (0, [(ev_ref 245), (ev_int 4)]))
noncomputable def ev_cel245 : Option ev_C := some (.inr (5, 4, [(ev_int 115), (ev_int 111), (ev_int 114), (ev_int 116)]))
noncomputable def ev_cel246 : Option ev_C := some (.inl (11, [(ev_ref 247), (ev_int 45), ev_null, ev_null, ev_null, (ev_int 0), ev_null, ev_null, (ev_int 28), (ev_int 0)]))
noncomputable def ev_cel247 : Option ev_C := some (.inl (0, [(ev_ref 248), (ev_int 4)]))
noncomputable def ev_cel248 : Option ev_C := some (.inr (5, 4, [(ev_int 115), (ev_int 111), (ev_int 114), (ev_int 116)]))
noncomputable def ev_cel249 : Option ev_C := some (.inl (0, [(ev_ref 250), (ev_int 4)]))
noncomputable def ev_cel250 : Option ev_C := some (.inr (5, 4, [(ev_int 117), (ev_int 110), (ev_int 105), (ev_int 113)]))
noncomputable def ev_cel251 : Option ev_C := some (.inl (11, [(ev_ref 252), (ev_int 46), ev_null, ev_null, ev_null, (ev_int 0), ev_null, ev_null, (ev_int 29), (ev_int 0)]))
noncomputable def ev_cel252 : Option ev_C := some (.inl (0, [(ev_ref 253), (ev_int 4)]))
noncomputable def ev_cel253 : Option ev_C := some (.inr (5, 4, [(ev_int 117), (ev_int 110), (ev_int 105), (ev_int 113)]))
noncomputable def ev_cel254 : Option ev_C := some (.inl (0, [(ev_ref 255), (ev_int 2)]))
noncomputable def ev_cel255 : Option ev_C := some (.inr (5, 2, [(ev_int 116), (ev_int 114)]))
noncomputable def ev_cel256 : Option ev_C := some (.inl (11, [(ev_ref 257), (ev_int 47), ev_null, ev_null, ev_null, (ev_int 0), ev_null, ev_null, (ev_int 30), (ev_int 0)]))
noncomputable def ev_cel257 : Option ev_C := some (.inl (0, [(ev_ref 258), (ev_int 2)]))
noncomputable def ev_cel258 : Option ev_C := some (.inr (5, 2, [(ev_int 116), (ev_int 114)]))
noncomputable def ev_cel259 : Option ev_C := some (.inl (0, [(ev_ref 260), (ev_int 3)]))
noncomputable def ev_cel260 : Option ev_C := some (.inr (5, 3, [(ev_int 99), (ev_int 117), (ev_int 116)]))
noncomputable def ev_cel261 : Option ev_C := some (.inl (11, [(ev_ref 262), (ev_int 48), ev_null, (ev_ref 161), ev_null, (ev_int 0), ev_null, ev_null, (ev_int 31), (ev_int 0)]))
noncomputable def ev_cel262 : Option ev_C := some (.inl (0, [(ev_ref 263), (ev_int 3)]))
noncomputable def ev_cel263 : Option ev_C := some (.inr (5, 3, [(ev_int 99), (ev_int 117), (ev_int 116)]))
noncomputable def ev_cel264 : Option ev_C := some (.inl (0, [(ev_ref 265), (ev_int 4)]))
noncomputable def ev_cel265 : Option ev_C := some (.inr (5, 4, [(ev_int 103), (ev_int 114), (ev_int 101), (ev_int 112)]))
noncomputable def ev_cel266 : Option ev_C := some (.inl (11, [(ev_ref 267), (ev_int 49), ev_null, (ev_ref 226), ev_null, (ev_int 0), ev_null, ev_null, (ev_int 32), (ev_int 0)]))
noncomputable def ev_cel267 : Option ev_C := some (.inl (0, [(ev_ref 268), (ev_int 4)]))
noncomputable def ev_cel268 : Option ev_C := some (.inr (5, 4, [(ev_int 103), (ev_int 114), (ev_int 101), (ev_int 112)]))
noncomputable def ev_cel269 : Option ev_C := some (.inl (0, [(ev_ref 270), (ev_int 3)]))
noncomputable def ev_cel270 : Option ev_C := some (.inr (5, 3, [(ev_int 115), (ev_int 101), (ev_int 113)]))
noncomputable def ev_cel271 : Option ev_C := some (.inl (11, [(ev_ref 272), (ev_int 50), ev_null, ev_null, ev_null, (ev_int 0), ev_null, ev_null, (ev_int 33), (ev_int 0)]))
noncomputable def ev_cel272 : Option ev_C := some (.inl (0, [(ev_ref 273), (ev_int 3)]))
noncomputable def ev_cel273 : Option ev_C := some (.inr (5, 3, [(ev_int 115), (ev_int 101), (ev_int 113)]))
noncomputable def ev_cel274 : Option ev_C := some (.inl (0, [(ev_ref 275), (ev_int 2)]))
noncomputable def ev_cel275 : Option ev_C := some (.inr (5, 2, [(ev_int 108), (ev_int 115)]))
noncomputable def ev_cel276 : Option ev_C := some (.inl (11, [(ev_ref 277), (ev_int 51), ev_null, ev_null, ev_null, (ev_int 0), ev_null, ev_null, (ev_int 34), (ev_int 0)]))
noncomputable def ev_cel277 : Option ev_C := some (.inl (0, [(ev_ref 278), (ev_int 2)]))
noncomputable def ev_cel278 : Option ev_C := some (.inr (5, 2, [(ev_int 108), (ev_int 115)]))
noncomputable def ev_cel279 : Option ev_C := some (.inl (0, [(ev_ref 280), (ev_int 5)]))
noncomputable def ev_cel280 : Option ev_C := some (.inr (5, 5, [(ev_int 109), (ev_int 107), (ev_int 100), (ev_int 105), (ev_int 114)]))
noncomputable def ev_cel281 : Option ev_C := some (.inl (11, [(ev_ref 282), (ev_int 52), ev_null, ev_null, ev_null, (ev_int 0), ev_null, ev_null, (ev_int 35), (ev_int 0)]))
noncomputable def ev_cel282 : Option ev_C := some (.inl (0, [(ev_ref 283), (ev_int 5)]))
noncomputable def ev_cel283 : Option ev_C := some (.inr (5, 5, [(ev_int 109), (ev_int 107), (ev_int 100), (ev_int 105), (ev_int 114)]))
noncomputable def ev_cel284 : Option ev_C := some (.inl (0, [(ev_ref 285), (ev_int 2)]))
noncomputable def ev_cel285 : Option ev_C := some (.inr (5, 2, [(ev_int 114), (ev_int 109)]))
noncomputable def ev_cel286 : Option ev_C := some (.inl (11, [(ev_ref 287), (ev_int 53), ev_null, ev_null, ev_null, (ev_int 0), ev_null, ev_null, (ev_int 36), (ev_int 0)]))
noncomputable def ev_cel287 : Option ev_C := some (.inl (0, [(ev_ref 288), (ev_int 2)]))
noncomputable def ev_cel288 : Option ev_C := some (.inr (5, 2, [(ev_int 114), (ev_int 109)]))
noncomputable def ev_cel289 : Option ev_C := some (.inl (0, [(ev_ref 290), (ev_int 5)]))
noncomputable def ev_cel290 : Option ev_C := some (.inr (5, 5, [(ev_int 116), (ev_int 111), (ev_int 117), (ev_int 99), (ev_int 104)]))
noncomputable def ev_cel291 : Option ev_C := some (.inl (11, [(ev_ref 292), (ev_int 54), ev_null, ev_null, ev_null, (ev_int 0), ev_null, ev_null, (ev_int 37), (ev_int 0)]))
noncomputable def ev_cel292 : Option ev_C := some (.inl (0, [(ev_ref 293), (ev_int 5)]))
noncomputable def ev_cel293 : Option ev_C := some (.inr (5, 5, [(ev_int 116), (ev_int 111), (ev_int 117), (ev_int 99), (ev_int 104)]))
noncomputable def ev_cel294 : Option ev_C := some (.inl (0, [(ev_ref 295), (ev_int 2)]))
noncomputable def ev_cel295 : Option ev_C := some (.inr (5, 2, [(ev_int 99), (ev_int 112)]))
noncomputable def ev_cel296 : Option ev_C := some (.inl (11, [(ev_ref 297), (ev_int 55), ev_null, ev_null, ev_null, (ev_int 0), ev_null, ev_null, (ev_int 38), (ev_int 0)]))
noncomputable def ev_cel297 : Option ev_C := some (.inl (0, [(ev_ref 298), (ev_int 2)]))
noncomputable def ev_cel298 : Option ev_C := some (.inr (5, 2, [(ev_int 99), (ev_int 112)]))
noncomputable def ev_cel299 : Option ev_C := some (.inl (0, [(ev_ref 300), (ev_int 2)]))
noncomputable def ev_cel300 : Option ev_C := some (.inr (5, 2, [(ev_int 109), (ev_int 118)]))
noncomputable def ev_cel301 : Option ev_C := some (.inl (11, [(ev_ref 302), (ev_int 56), ev_null, ev_null, ev_null, (ev_int 0), ev_null, ev_null, (ev_int 39), (ev_int 0)]))
noncomputable def ev_cel302 : Option ev_C := some (.inl (0, [(ev_ref 303), (ev_int 2)]))
noncomputable def ev_cel303 : Option ev_C := some (.inr (5, 2, [(ev_int 109), (ev_int 118)]))
noncomputable def ev_cel304 : Option ev_C := some (.inl (3, ((ev_ref 7) :: (ev_ref 305) :: (ev_int 0) :: ev_null :: (ev_ref 306) :: (ev_int 0) :: (ev_ref 307) :: (ev_int 0) :: (ev_ref 308) :: (ev_rp 11 (ev_int 0) [ev_null, ev_null]))))
noncomputable def ev_cel305 : Option ev_C := some (.inr (6, 64, (ev_rp 64 (ev_null) [])))
noncomputable def ev_cel306 : Option ev_C := some (.inr (1, 64, (ev_rp 64 (ev_int 0) [])))
noncomputable def ev_cel307 : Option ev_C := some (.inr (7, 16, (ev_rp 16 (ev_null) [])))
noncomputable def ev_cel308 : Option ev_C := some (.inl (0, [(ev_ref 309), (ev_int 0)]))
noncomputable def ev_cel309 : Option ev_C := some (.inr (5, 16, (ev_rp 16 (ev_int 0) [])))
noncomputable def ev_cel310 : Option ev_C := some (.inl (4, ((ev_ref 7) :: (ev_ref 304) :: (ev_ref 328) :: (ev_ref 344) :: (ev_ref 311) :: (ev_ref 312) :: (ev_ref 313) :: (ev_ref 314) :: (ev_ref 315) :: (ev_int 0) :: (ev_ref 316) :: (ev_ref 317) :: (ev_rp 10 (ev_int 0) [(ev_int (-1)), (ev_ref 318)]))))
noncomputable def ev_cel311 : Option ev_C := some (.inr (0, 3, [(ev_ref 319), (ev_ref 322), (ev_ref 325)]))
noncomputable def ev_cel312 : Option ev_C := some (.inr (0, 3, [ev_null, ev_null, ev_null]))
noncomputable def ev_cel313 : Option ev_C := some (.inl (7, [ev_null, ev_null, (ev_int 1), (ev_int 0), (ev_int 0), (ev_int 0), ev_null, ev_null, (ev_int 0)]))
noncomputable def ev_cel314 : Option ev_C := some (.inr (0, 16, (ev_rp 16 (ev_null) [])))
noncomputable def ev_cel315 : Option ev_C := some (.inr (1, 16, (ev_rp 16 (ev_int 0) [])))
noncomputable def ev_cel316 : Option ev_C := some (.inr (4, 16, (ev_rp 16 (ev_null) [])))
noncomputable def ev_cel317 : Option ev_C := some (.inr (2, 16, (ev_rp 16 (ev_null) [])))
noncomputable def ev_cel318 : Option ev_C := some (.inr (0, 61, (ev_rp 61 (ev_null) [])))
noncomputable def ev_cel319 : Option ev_C := some (.inl (7, [(ev_ref 320), ev_null, (ev_int 1), (ev_int 0), (ev_int 0), (ev_int 0), ev_null, ev_null, (ev_int 0)]))
noncomputable def ev_cel320 : Option ev_C := some (.inl (0, [(ev_ref 321), (ev_int 0)]))
noncomputable def ev_cel321 : Option ev_C := some (.inr (5, 64, (ev_rp 64 (ev_int 0) [])))
noncomputable def ev_cel322 : Option ev_C := some (.inl (7, [(ev_ref 323), ev_null, (ev_int 0), (ev_int 65536), (ev_int 0), (ev_int 0), ev_null, ev_null, (ev_int 0)]))
noncomputable def ev_cel323 : Option ev_C := some (.inl (0, [(ev_ref 324), (ev_int 0)]))
noncomputable def ev_cel324 : Option ev_C := some (.inr (5, 64, (ev_rp 64 (ev_int 0) [])))
noncomputable def ev_cel325 : Option ev_C := some (.inl (7, [(ev_ref 326), ev_null, (ev_int 0), (ev_int 65536), (ev_int 0), (ev_int 0), ev_null, ev_null, (ev_int 0)]))
noncomputable def ev_cel326 : Option ev_C := some (.inl (0, [(ev_ref 327), (ev_int 0)]))
noncomputable def ev_cel327 : Option ev_C := some (.inr (5, 64, (ev_rp 64 (ev_int 0) [])))
noncomputable def ev_cel328 : Option ev_C := some (.inl (5, [(ev_ref 7), (ev_ref 304), (ev_ref 310), (ev_ref 339), (ev_ref 329), (ev_int 0), (ev_int 0), (ev_ref 330), (ev_int 0), (ev_ref 331), ev_null, (ev_ref 332), (ev_ref 334), (ev_ref 335), (ev_int 0), (ev_ref 336), (ev_int 0), (ev_int 0), (ev_ref 337), (ev_ref 338), (ev_int 0), (ev_int 0)]))
noncomputable def ev_cel329 : Option ev_C := some (.inr (1, 256, (ev_rp 256 (ev_int 0) [])))
noncomputable def ev_cel330 : Option ev_C := some (.inr (2, 64, (ev_rp 64 (ev_null) [])))
noncomputable def ev_cel331 : Option ev_C := some (.inr (1, 256, (ev_rp 9 (ev_int 0) ((ev_int 1) :: (ev_int 1) :: (ev_rp 21 (ev_int 0) ((ev_int 1) :: (ev_rp 223 (ev_int 0) [])))))))
noncomputable def ev_cel332 : Option ev_C := some (.inl (0, [(ev_ref 333), (ev_int 0)]))
noncomputable def ev_cel333 : Option ev_C := some (.inr (5, 32, (ev_rp 32 (ev_int 0) [])))
noncomputable def ev_cel334 : Option ev_C := some (.inr (1, 64, (ev_rp 64 (ev_int 0) [])))
noncomputable def ev_cel335 : Option ev_C := some (.inr (1, 64, (ev_rp 64 (ev_int 0) [])))
noncomputable def ev_cel336 : Option ev_C := some (.inr (1, 64, (ev_rp 64 (ev_int 0) [])))
noncomputable def ev_cel337 : Option ev_C := some (.inr (2, 64, (ev_rp 64 (ev_null) [])))
noncomputable def ev_cel338 : Option ev_C := some (.inr (3, 64, (ev_rp 64 (ev_null) [])))
noncomputable def ev_cel339 : Option ev_C := some (.inl (9, [(ev_ref 7), (ev_ref 340), (ev_int 0), (ev_ref 341), (ev_int 0), ev_null, (ev_int 0), (ev_ref 342), (ev_int 0), (ev_int 0), (ev_int 0)]))
noncomputable def ev_cel340 : Option ev_C := some (.inr (8, 1024, (ev_rp 1024 (.inr (.inl (0, 0))) [])))
noncomputable def ev_cel341 : Option ev_C := some (.inr (1, 5120, (ev_rp 5120 (ev_int 0) [])))
noncomputable def ev_cel342 : Option ev_C := some (.inl (0, [(ev_ref 343), (ev_int 0)]))
noncomputable def ev_cel343 : Option ev_C := some (.inr (5, 16, (ev_rp 16 (ev_int 0) [])))
noncomputable def ev_cel344 : Option ev_C := some (.inl (6, [(ev_ref 7), (ev_ref 310), (ev_ref 328), (ev_ref 345), (ev_ref 347), (ev_ref 349), (ev_ref 350), (ev_ref 351), (ev_int 0), (ev_ref 352), (ev_ref 354), (ev_ref 355), (ev_ref 356), (ev_ref 357), (ev_int 0), (ev_int 0), (ev_int 0), (ev_int 0)]))
noncomputable def ev_cel345 : Option ev_C := some (.inl (0, [(ev_ref 346), (ev_int 0)]))
noncomputable def ev_cel346 : Option ev_C := some (.inr (5, 64, (ev_rp 64 (ev_int 0) [])))
noncomputable def ev_cel347 : Option ev_C := some (.inl (0, [(ev_ref 348), (ev_int 0)]))
noncomputable def ev_cel348 : Option ev_C := some (.inr (5, 64, (ev_rp 64 (ev_int 0) [])))
noncomputable def ev_cel349 : Option ev_C := some (.inr (1, 64, (ev_rp 64 (ev_int 0) [])))
noncomputable def ev_cel350 : Option ev_C := some (.inr (1, 64, (ev_rp 64 (ev_int 0) [])))
noncomputable def ev_cel351 : Option ev_C := some (.inr (1, 64, (ev_rp 64 (ev_int 0) [])))
noncomputable def ev_cel352 : Option ev_C := some (.inl (0, [(ev_ref 353), (ev_int 0)]))
noncomputable def ev_cel353 : Option ev_C := some (.inr (5, 32, (ev_rp 32 (ev_int 0) [])))
noncomputable def ev_cel354 : Option ev_C := some (.inr (1, 256, (ev_rp 256 (ev_int 0) [])))
noncomputable def ev_cel355 : Option ev_C := some (.inr (9, 256, (ev_rp 256 (ev_int 0) [])))
noncomputable def ev_cel356 : Option ev_C := some (.inr (1, 4, [(ev_int 0), (ev_int 0), (ev_int 0), (ev_int 0)]))
noncomputable def ev_cel357 : Option ev_C := some (.inr (1, 4, [(ev_int 0), (ev_int 0), (ev_int 0), (ev_int 0)]))
noncomputable def ev_cel358 : Option ev_C := some (.inl (13, ((ev_ref 359) :: (ev_ref 360) :: (ev_ref 361) :: (ev_ref 362) :: (ev_int 0) :: (ev_ref 363) :: (ev_ref 365) :: (ev_ref 367) :: (.inr (.inl (0, 0))) :: (ev_int 0) :: ev_null :: (ev_ref 368) :: ev_null :: ev_null :: (ev_ref 426) :: (ev_ref 426) :: (ev_int 0) :: (ev_int 1) :: (ev_int 0) :: ev_null :: ev_null :: (ev_ref 372) :: (ev_ref 373) :: (.inr (.inl (0, 0))) :: (ev_ref 374) :: (ev_ref 377) :: (ev_ref 380) :: (ev_ref 425) :: (ev_rp 17 (ev_int 0) [(ev_ref 384), (ev_ref 385), (ev_ref 386), (ev_ref 387), (ev_ref 388), (ev_ref 389), (ev_ref 390), (ev_int 0), (ev_int 0), (ev_ref 391), (ev_ref 392), ev_null, (ev_ref 401), (ev_ref 402), (ev_ref 403), (ev_ref 404), (ev_ref 405), (ev_ref 406), (ev_int 0), (ev_int 0), (ev_ref 407), (ev_ref 408), (ev_int 0), (ev_int 0), (ev_int 0), (ev_int 0), (ev_ref 409), (ev_ref 410), (ev_int 0), (ev_int 0), (ev_ref 411), (ev_ref 412), (ev_int 0), (ev_int 0), ev_null, (ev_int 0), (ev_int 0), (ev_int 0), (.inr (.inl (0, 0))), (ev_ref 413), (.inr (.inl (0, 0))), (ev_ref 414), (ev_int 0), (ev_int 0), (ev_int 0), (ev_int 0), (ev_int 0), (ev_ref 415), ev_null, (ev_int 0), (ev_int 0), (ev_int 0), (ev_int 0), (ev_int 0), (ev_ref 417), (ev_ref 419), (ev_ref 421), (ev_ref 423), (ev_ref 430)]))))
noncomputable def ev_cel359 : Option ev_C := some (.inr (10, 256, (ev_rp 256 (ev_null) [])))
noncomputable def ev_cel360 : Option ev_C := some (.inr (11, 0, []))
noncomputable def ev_cel361 : Option ev_C := some (.inr (10, 256, (ev_rp 256 (ev_null) [])))
noncomputable def ev_cel362 : Option ev_C := some (.inl (14, []))
noncomputable def ev_cel363 : Option ev_C := some (.inl (15, [(ev_ref 364), (ev_int 0)]))
noncomputable def ev_cel364 : Option ev_C := some (.inr (11, 16, (ev_rp 16 (ev_int 0) [])))
noncomputable def ev_cel365 : Option ev_C := some (.inl (15, [(ev_ref 366), (ev_int 0)]))
noncomputable def ev_cel366 : Option ev_C := some (.inr (11, 16, (ev_rp 16 (ev_int 0) [])))
noncomputable def ev_cel367 : Option ev_C := some (.inr (1, 64, (ev_rp 64 (ev_int 0) [])))
noncomputable def ev_cel368 : Option ev_C := some (.inl (15, [(ev_ref 369), (ev_int 0)]))
noncomputable def ev_cel369 : Option ev_C := some (.inr (11, 16, (ev_rp 16 (ev_int 0) [])))
noncomputable def ev_cel370 : Option ev_C := some (.inl (16, [(ev_ref 371), ev_null, ev_null, ev_null, (ev_int 1), (ev_int 0), ev_null]))
noncomputable def ev_cel371 : Option ev_C := some (.inr (11, 0, []))
noncomputable def ev_cel372 : Option ev_C := some (.inl (17, [(ev_int 0), (ev_ext 2001), (ev_int 0)]))
noncomputable def ev_cel373 : Option ev_C := some (.inr (12, 3, [ev_null, ev_null, ev_null]))
noncomputable def ev_cel374 : Option ev_C := some (.inl (18, [(ev_ref 375), (ev_ref 376), (ev_int 0), (ev_int 0)]))
noncomputable def ev_cel375 : Option ev_C := some (.inl (17, [(ev_int 0), (ev_ext 2001), (ev_int 0)]))
noncomputable def ev_cel376 : Option ev_C := some (.inr (16, 512, (ev_rp 512 (ev_null) [])))
noncomputable def ev_cel377 : Option ev_C := some (.inl (18, [(ev_ref 378), (ev_ref 379), (ev_int 0), (ev_int 0)]))
noncomputable def ev_cel378 : Option ev_C := some (.inl (17, [(ev_int 0), (ev_ext 2001), (ev_int 0)]))
noncomputable def ev_cel379 : Option ev_C := some (.inr (16, 512, (ev_rp 512 (ev_null) [])))
noncomputable def ev_cel380 : Option ev_C := some (.inl (18, [(ev_ref 381), (ev_ref 382), (ev_int 0), (ev_int 0)]))
noncomputable def ev_cel381 : Option ev_C := some (.inl (17, [(ev_int 0), (ev_ext 2001), (ev_int 0)]))
noncomputable def ev_cel382 : Option ev_C := some (.inr (16, 512, (ev_rp 512 (ev_null) [])))
noncomputable def ev_cel383 : Option ev_C := some (.inr (10, 0, []))
noncomputable def ev_cel384 : Option ev_C := some (.inl (17, [(ev_int 0), (ev_ext 2001), (ev_int 0)]))
noncomputable def ev_cel385 : Option ev_C := some (.inr (10, 16, (ev_rp 16 (ev_null) [])))
noncomputable def ev_cel386 : Option ev_C := some (.inr (13, 16, (ev_rp 16 (ev_null) [])))
noncomputable def ev_cel387 : Option ev_C := some (.inr (1, 16, (ev_rp 16 (ev_int 0) [])))
noncomputable def ev_cel388 : Option ev_C := some (.inr (11, 4, [(ev_int 72), (ev_int 79), (ev_int 77), (ev_int 69)]))
noncomputable def ev_cel389 : Option ev_C := some (.inr (11, 3, [(ev_int 73), (ev_int 70), (ev_int 83)]))
noncomputable def ev_cel390 : Option ev_C := some (.inr (14, 256, (ev_rp 256 (ev_null) [])))
noncomputable def ev_cel391 : Option ev_C := some (.inr (11, 2, [(ev_int 115), (ev_int 104)]))
noncomputable def ev_cel392 : Option ev_C := some (.inr (10, 8, [(ev_ref 393), (ev_ref 394), (ev_ref 395), (ev_ref 396), (ev_ref 397), (ev_ref 398), (ev_ref 399), (ev_ref 400)]))
noncomputable def ev_cel393 : Option ev_C := some (.inr (11, 0, []))
noncomputable def ev_cel394 : Option ev_C := some (.inr (11, 1, [(ev_int 101)]))
noncomputable def ev_cel395 : Option ev_C := some (.inr (11, 1, [(ev_int 102)]))
noncomputable def ev_cel396 : Option ev_C := some (.inr (11, 2, [(ev_int 101), (ev_int 102)]))
noncomputable def ev_cel397 : Option ev_C := some (.inr (11, 1, [(ev_int 117)]))
noncomputable def ev_cel398 : Option ev_C := some (.inr (11, 2, [(ev_int 101), (ev_int 117)]))
noncomputable def ev_cel399 : Option ev_C := some (.inr (11, 2, [(ev_int 102), (ev_int 117)]))
noncomputable def ev_cel400 : Option ev_C := some (.inr (11, 3, [(ev_int 101), (ev_int 102), (ev_int 117)]))
noncomputable def ev_cel401 : Option ev_C := some (.inr (11, 256, (ev_rp 256 (ev_int 0) [])))
noncomputable def ev_cel402 : Option ev_C := some (.inr (11, 256, (ev_rp 256 (ev_int 0) [])))
noncomputable def ev_cel403 : Option ev_C := some (.inr (1, 64, (ev_rp 64 (ev_int 0) [])))
noncomputable def ev_cel404 : Option ev_C := some (.inr (1, 64, (ev_rp 64 (ev_int 0) [])))
noncomputable def ev_cel405 : Option ev_C := some (.inr (15, 64, (ev_rp 64 (ev_null) [])))
noncomputable def ev_cel406 : Option ev_C := some (.inr (15, 64, (ev_rp 64 (ev_null) [])))
noncomputable def ev_cel407 : Option ev_C := some (.inl (17, [(ev_int 0), (ev_ext 2001), (ev_int 0)]))
noncomputable def ev_cel408 : Option ev_C := some (.inr (11, 64, (ev_rp 64 (ev_int 0) [])))
noncomputable def ev_cel409 : Option ev_C := some (.inr (1, 64, (ev_rp 64 (ev_int 0) [])))
noncomputable def ev_cel410 : Option ev_C := some (.inr (8, 64, (ev_rp 64 (.inr (.inl (0, 0))) [])))
noncomputable def ev_cel411 : Option ev_C := some (.inr (9, 65, (ev_rp 65 (ev_int 0) [])))
noncomputable def ev_cel412 : Option ev_C := some (.inr (9, 65, (ev_rp 65 (ev_int 0) [])))
noncomputable def ev_cel413 : Option ev_C := some (.inl (17, [(ev_int 0), (ev_ext 2001), (ev_int 0)]))
noncomputable def ev_cel414 : Option ev_C := some (.inr (1, 64, (ev_rp 64 (ev_int 0) [])))
noncomputable def ev_cel415 : Option ev_C := some (.inl (15, [(ev_ref 416), (ev_int 0)]))
noncomputable def ev_cel416 : Option ev_C := some (.inr (11, 16, (ev_rp 16 (ev_int 0) [])))
noncomputable def ev_cel417 : Option ev_C := some (.inl (15, [(ev_ref 418), (ev_int 0)]))
noncomputable def ev_cel418 : Option ev_C := some (.inr (11, 16, (ev_rp 16 (ev_int 0) [])))
noncomputable def ev_cel419 : Option ev_C := some (.inl (15, [(ev_ref 420), (ev_int 0)]))
noncomputable def ev_cel420 : Option ev_C := some (.inr (11, 16, (ev_rp 16 (ev_int 0) [])))
noncomputable def ev_cel421 : Option ev_C := some (.inl (15, [(ev_ref 422), (ev_int 0)]))
noncomputable def ev_cel422 : Option ev_C := some (.inr (11, 16, (ev_rp 16 (ev_int 0) [])))
noncomputable def ev_cel423 : Option ev_C := some (.inl (15, [(ev_ref 424), (ev_int 0)]))
noncomputable def ev_cel424 : Option ev_C := some (.inr (11, 16, (ev_rp 16 (ev_int 0) [])))
noncomputable def ev_cel425 : Option ev_C := some (.inr (10, 0, []))
noncomputable def ev_cel426 : Option ev_C := some (.inl (16, [(ev_ref 427), ev_null, ev_null, ev_null, (ev_int 1), (ev_int 0), ev_null]))
noncomputable def ev_cel427 : Option ev_C := some (.inr (11, 0, []))
noncomputable def ev_cel428 : Option ev_C := some (.inl (15, [(ev_ref 429), (ev_int 0)]))
noncomputable def ev_cel429 : Option ev_C := some (.inr (11, 16, (ev_rp 16 (ev_int 0) [])))
noncomputable def ev_cel430 : Option ev_C := some (.inl (19, [(ev_int 0), (ev_int 0), (ev_int 0), (ev_ref 428), ev_null]))
noncomputable def ev_cel431 : Option ev_C := some (.inr (8, 1, [(.inr (.inl (0, 0)))]))
noncomputable def ev_pic_0 : ev_T (Option ev_C) 5 := ev_tn (ev_tn (ev_tn (ev_tn (ev_tn (ev_tl ev_cel0) (ev_e0 0)) (ev_tn (ev_tl ev_cel256) (ev_e0 0))) (ev_tn (ev_tn (ev_tl ev_cel128) (ev_e0 0)) (ev_tn (ev_tl ev_cel384) (ev_e0 0)))) (ev_tn (ev_tn (ev_tn (ev_tl ev_cel64) (ev_e0 0)) (ev_tn (ev_tl ev_cel320) (ev_e0 0))) (ev_tn (ev_tn (ev_tl ev_cel192) (ev_e0 0)) (ev_e0 1)))) (ev_tn (ev_tn (ev_tn (ev_tn (ev_tl ev_cel32) (ev_e0 0)) (ev_tn (ev_tl ev_cel288) (ev_e0 0))) (ev_tn (ev_tn (ev_tl ev_cel160) (ev_e0 0)) (ev_tn (ev_tl ev_cel416) (ev_e0 0)))) (ev_tn (ev_tn (ev_tn (ev_tl ev_cel96) (ev_e0 0)) (ev_tn (ev_tl ev_cel352) (ev_e0 0))) (ev_tn (ev_tn (ev_tl ev_cel224) (ev_e0 0)) (ev_e0 1))))
noncomputable def ev_pic_1 : ev_T (Option ev_C) 5 := ev_tn (ev_tn (ev_tn (ev_tn (ev_tn (ev_tl ev_cel1) (ev_e0 0)) (ev_tn (ev_tl ev_cel257) (ev_e0 0))) (ev_tn (ev_tn (ev_tl ev_cel129) (ev_e0 0)) (ev_tn (ev_tl ev_cel385) (ev_e0 0)))) (ev_tn (ev_tn (ev_tn (ev_tl ev_cel65) (ev_e0 0)) (ev_tn (ev_tl ev_cel321) (ev_e0 0))) (ev_tn (ev_tn (ev_tl ev_cel193) (ev_e0 0)) (ev_e0 1)))) (ev_tn (ev_tn (ev_tn (ev_tn (ev_tl ev_cel33) (ev_e0 0)) (ev_tn (ev_tl ev_cel289) (ev_e0 0))) (ev_tn (ev_tn (ev_tl ev_cel161) (ev_e0 0)) (ev_tn (ev_tl ev_cel417) (ev_e0 0)))) (ev_tn (ev_tn (ev_tn (ev_tl ev_cel97) (ev_e0 0)) (ev_tn (ev_tl ev_cel353) (ev_e0 0))) (ev_tn (ev_tn (ev_tl ev_cel225) (ev_e0 0)) (ev_e0 1))))
noncomputable def ev_pic_2 : ev_T (Option ev_C) 5 := ev_tn (ev_tn (ev_tn (ev_tn (ev_tn (ev_tl ev_cel2) (ev_e0 0)) (ev_tn (ev_tl ev_cel258) (ev_e0 0))) (ev_tn (ev_tn (ev_tl ev_cel130) (ev_e0 0)) (ev_tn (ev_tl ev_cel386) (ev_e0 0)))) (ev_tn (ev_tn (ev_tn (ev_tl ev_cel66) (ev_e0 0)) (ev_tn (ev_tl ev_cel322) (ev_e0 0))) (ev_tn (ev_tn (ev_tl ev_cel194) (ev_e0 0)) (ev_e0 1)))) (ev_tn (ev_tn (ev_tn (ev_tn (ev_tl ev_cel34) (ev_e0 0)) (ev_tn (ev_tl ev_cel290) (ev_e0 0))) (ev_tn (ev_tn (ev_tl ev_cel162) (ev_e0 0)) (ev_tn (ev_tl ev_cel418) (ev_e0 0)))) (ev_tn (ev_tn (ev_tn (ev_tl ev_cel98) (ev_e0 0)) (ev_tn (ev_tl ev_cel354) (ev_e0 0))) (ev_tn (ev_tn (ev_tl ev_cel226) (ev_e0 0)) (ev_e0 1))))
noncomputable def ev_pic_3 : ev_T (Option ev_C) 5 := ev_tn (ev_tn (ev_tn (ev_tn (ev_tn (ev_tl ev_cel3) (ev_e0 0)) (ev_tn (ev_tl ev_cel259) (ev_e0 0))) (ev_tn (ev_tn (ev_tl ev_cel131) (ev_e0 0)) (ev_tn (ev_tl ev_cel387) (ev_e0 0)))) (ev_tn (ev_tn (ev_tn (ev_tl ev_cel67) (ev_e0 0)) (ev_tn (ev_tl ev_cel323) (ev_e0 0))) (ev_tn (ev_tn (ev_tl ev_cel195) (ev_e0 0)) (ev_e0 1)))) (ev_tn (ev_tn (ev_tn (ev_tn (ev_tl ev_cel35) (ev_e0 0)) (ev_tn (ev_tl ev_cel291) (ev_e0 0))) (ev_tn (ev_tn (ev_tl ev_cel163) (ev_e0 0)) (ev_tn (ev_tl ev_cel419) (ev_e0 0)))) (ev_tn (ev_tn (ev_tn (ev_tl ev_cel99) (ev_e0 0)) (ev_tn (ev_tl ev_cel355) (ev_e0 0))) (ev_tn (ev_tn (ev_tl ev_cel227) (ev_e0 0)) (ev_e0 1))))
noncomputable def ev_pic_4 : ev_T (Option ev_C) 5 := ev_tn (ev_tn (ev_tn (ev_tn (ev_tn (ev_tl ev_cel4) (ev_e0 0)) (ev_tn (ev_tl ev_cel260) (ev_e0 0))) (ev_tn (ev_tn (ev_tl ev_cel132) (ev_e0 0)) (ev_tn (ev_tl ev_cel388) (ev_e0 0)))) (ev_tn (ev_tn (ev_tn (ev_tl ev_cel68) (ev_e0 0)) (ev_tn (ev_tl ev_cel324) (ev_e0 0))) (ev_tn (ev_tn (ev_tl ev_cel196) (ev_e0 0)) (ev_e0 1)))) (ev_tn (ev_tn (ev_tn (ev_tn (ev_tl ev_cel36) (ev_e0 0)) (ev_tn (ev_tl ev_cel292) (ev_e0 0))) (ev_tn (ev_tn (ev_tl ev_cel164) (ev_e0 0)) (ev_tn (ev_tl ev_cel420) (ev_e0 0)))) (ev_tn (ev_tn (ev_tn (ev_tl ev_cel100) (ev_e0 0)) (ev_tn (ev_tl ev_cel356) (ev_e0 0))) (ev_tn (ev_tn (ev_tl ev_cel228) (ev_e0 0)) (ev_e0 1))))
noncomputable def ev_pic_5 : ev_T (Option ev_C) 5 := ev_tn (ev_tn (ev_tn (ev_tn (ev_tn (ev_tl ev_cel5) (ev_e0 0)) (ev_tn (ev_tl ev_cel261) (ev_e0 0))) (ev_tn (ev_tn (ev_tl ev_cel133) (ev_e0 0)) (ev_tn (ev_tl ev_cel389) (ev_e0 0)))) (ev_tn (ev_tn (ev_tn (ev_tl ev_cel69) (ev_e0 0)) (ev_tn (ev_tl ev_cel325) (ev_e0 0))) (ev_tn (ev_tn (ev_tl ev_cel197) (ev_e0 0)) (ev_e0 1)))) (ev_tn (ev_tn (ev_tn (ev_tn (ev_tl ev_cel37) (ev_e0 0)) (ev_tn (ev_tl ev_cel293) (ev_e0 0))) (ev_tn (ev_tn (ev_tl ev_cel165) (ev_e0 0)) (ev_tn (ev_tl ev_cel421) (ev_e0 0)))) (ev_tn (ev_tn (ev_tn (ev_tl ev_cel101) (ev_e0 0)) (ev_tn (ev_tl ev_cel357) (ev_e0 0))) (ev_tn (ev_tn (ev_tl ev_cel229) (ev_e0 0)) (ev_e0 1))))
noncomputable def ev_pic_6 : ev_T (Option ev_C) 5 := ev_tn (ev_tn (ev_tn (ev_tn (ev_tn (ev_tl ev_cel6) (ev_e0 0)) (ev_tn (ev_tl ev_cel262) (ev_e0 0))) (ev_tn (ev_tn (ev_tl ev_cel134) (ev_e0 0)) (ev_tn (ev_tl ev_cel390) (ev_e0 0)))) (ev_tn (ev_tn (ev_tn (ev_tl ev_cel70) (ev_e0 0)) (ev_tn (ev_tl ev_cel326) (ev_e0 0))) (ev_tn (ev_tn (ev_tl ev_cel198) (ev_e0 0)) (ev_e0 1)))) (ev_tn (ev_tn (ev_tn (ev_tn (ev_tl ev_cel38) (ev_e0 0)) (ev_tn (ev_tl ev_cel294) (ev_e0 0))) (ev_tn (ev_tn (ev_tl ev_cel166) (ev_e0 0)) (ev_tn (ev_tl ev_cel422) (ev_e0 0)))) (ev_tn (ev_tn (ev_tn (ev_tl ev_cel102) (ev_e0 0)) (ev_tn (ev_tl ev_cel358) (ev_e0 0))) (ev_tn (ev_tn (ev_tl ev_cel230) (ev_e0 0)) (ev_e0 1))))
noncomputable def ev_pic_7 : ev_T (Option ev_C) 5 := ev_tn (ev_tn (ev_tn (ev_tn (ev_tn (ev_tl ev_cel7) (ev_e0 0)) (ev_tn (ev_tl ev_cel263) (ev_e0 0))) (ev_tn (ev_tn (ev_tl ev_cel135) (ev_e0 0)) (ev_tn (ev_tl ev_cel391) (ev_e0 0)))) (ev_tn (ev_tn (ev_tn (ev_tl ev_cel71) (ev_e0 0)) (ev_tn (ev_tl ev_cel327) (ev_e0 0))) (ev_tn (ev_tn (ev_tl ev_cel199) (ev_e0 0)) (ev_e0 1)))) (ev_tn (ev_tn (ev_tn (ev_tn (ev_tl ev_cel39) (ev_e0 0)) (ev_tn (ev_tl ev_cel295) (ev_e0 0))) (ev_tn (ev_tn (ev_tl ev_cel167) (ev_e0 0)) (ev_tn (ev_tl ev_cel423) (ev_e0 0)))) (ev_tn (ev_tn (ev_tn (ev_tl ev_cel103) (ev_e0 0)) (ev_tn (ev_tl ev_cel359) (ev_e0 0))) (ev_tn (ev_tn (ev_tl ev_cel231) (ev_e0 0)) (ev_e0 1))))
noncomputable def ev_pic_8 : ev_T (Option ev_C) 5 := ev_tn (ev_tn (ev_tn (ev_tn (ev_tn (ev_tl ev_cel8) (ev_e0 0)) (ev_tn (ev_tl ev_cel264) (ev_e0 0))) (ev_tn (ev_tn (ev_tl ev_cel136) (ev_e0 0)) (ev_tn (ev_tl ev_cel392) (ev_e0 0)))) (ev_tn (ev_tn (ev_tn (ev_tl ev_cel72) (ev_e0 0)) (ev_tn (ev_tl ev_cel328) (ev_e0 0))) (ev_tn (ev_tn (ev_tl ev_cel200) (ev_e0 0)) (ev_e0 1)))) (ev_tn (ev_tn (ev_tn (ev_tn (ev_tl ev_cel40) (ev_e0 0)) (ev_tn (ev_tl ev_cel296) (ev_e0 0))) (ev_tn (ev_tn (ev_tl ev_cel168) (ev_e0 0)) (ev_tn (ev_tl ev_cel424) (ev_e0 0)))) (ev_tn (ev_tn (ev_tn (ev_tl ev_cel104) (ev_e0 0)) (ev_tn (ev_tl ev_cel360) (ev_e0 0))) (ev_tn (ev_tn (ev_tl ev_cel232) (ev_e0 0)) (ev_e0 1))))
noncomputable def ev_pic_9 : ev_T (Option ev_C) 5 := ev_tn (ev_tn (ev_tn (ev_tn (ev_tn (ev_tl ev_cel9) (ev_e0 0)) (ev_tn (ev_tl ev_cel265) (ev_e0 0))) (ev_tn (ev_tn (ev_tl ev_cel137) (ev_e0 0)) (ev_tn (ev_tl ev_cel393) (ev_e0 0)))) (ev_tn (ev_tn (ev_tn (ev_tl ev_cel73) (ev_e0 0)) (ev_tn (ev_tl ev_cel329) (ev_e0 0))) (ev_tn (ev_tn (ev_tl ev_cel201) (ev_e0 0)) (ev_e0 1)))) (ev_tn (ev_tn (ev_tn (ev_tn (ev_tl ev_cel41) (ev_e0 0)) (ev_tn (ev_tl ev_cel297) (ev_e0 0))) (ev_tn (ev_tn (ev_tl ev_cel169) (ev_e0 0)) (ev_tn (ev_tl ev_cel425) (ev_e0 0)))) (ev_tn (ev_tn (ev_tn (ev_tl ev_cel105) (ev_e0 0)) (ev_tn (ev_tl ev_cel361) (ev_e0 0))) (ev_tn (ev_tn (ev_tl ev_cel233) (ev_e0 0)) (ev_e0 1))))
noncomputable def ev_pic_10 : ev_T (Option ev_C) 5 := ev_tn (ev_tn (ev_tn (ev_tn (ev_tn (ev_tl ev_cel10) (ev_e0 0)) (ev_tn (ev_tl ev_cel266) (ev_e0 0))) (ev_tn (ev_tn (ev_tl ev_cel138) (ev_e0 0)) (ev_tn (ev_tl ev_cel394) (ev_e0 0)))) (ev_tn (ev_tn (ev_tn (ev_tl ev_cel74) (ev_e0 0)) (ev_tn (ev_tl ev_cel330) (ev_e0 0))) (ev_tn (ev_tn (ev_tl ev_cel202) (ev_e0 0)) (ev_e0 1)))) (ev_tn (ev_tn (ev_tn (ev_tn (ev_tl ev_cel42) (ev_e0 0)) (ev_tn (ev_tl ev_cel298) (ev_e0 0))) (ev_tn (ev_tn (ev_tl ev_cel170) (ev_e0 0)) (ev_tn (ev_tl ev_cel426) (ev_e0 0)))) (ev_tn (ev_tn (ev_tn (ev_tl ev_cel106) (ev_e0 0)) (ev_tn (ev_tl ev_cel362) (ev_e0 0))) (ev_tn (ev_tn (ev_tl ev_cel234) (ev_e0 0)) (ev_e0 1))))
noncomputable def ev_pic_11 : ev_T (Option ev_C) 5 := ev_tn (ev_tn (ev_tn (ev_tn (ev_tn (ev_tl ev_cel11) (ev_e0 0)) (ev_tn (ev_tl ev_cel267) (ev_e0 0))) (ev_tn (ev_tn (ev_tl ev_cel139) (ev_e0 0)) (ev_tn (ev_tl ev_cel395) (ev_e0 0)))) (ev_tn (ev_tn (ev_tn (ev_tl ev_cel75) (ev_e0 0)) (ev_tn (ev_tl ev_cel331) (ev_e0 0))) (ev_tn (ev_tn (ev_tl ev_cel203) (ev_e0 0)) (ev_e0 1)))) (ev_tn (ev_tn (ev_tn (ev_tn (ev_tl ev_cel43) (ev_e0 0)) (ev_tn (ev_tl ev_cel299) (ev_e0 0))) (ev_tn (ev_tn (ev_tl ev_cel171) (ev_e0 0)) (ev_tn (ev_tl ev_cel427) (ev_e0 0)))) (ev_tn (ev_tn (ev_tn (ev_tl ev_cel107) (ev_e0 0)) (ev_tn (ev_tl ev_cel363) (ev_e0 0))) (ev_tn (ev_tn (ev_tl ev_cel235) (ev_e0 0)) (ev_e0 1))))
noncomputable def ev_pic_12 : ev_T (Option ev_C) 5 := ev_tn (ev_tn (ev_tn (ev_tn (ev_tn (ev_tl ev_cel12) (ev_e0 0)) (ev_tn (ev_tl ev_cel268) (ev_e0 0))) (ev_tn (ev_tn (ev_tl ev_cel140) (ev_e0 0)) (ev_tn (ev_tl ev_cel396) (ev_e0 0)))) (ev_tn (ev_tn (ev_tn (ev_tl ev_cel76) (ev_e0 0)) (ev_tn (ev_tl ev_cel332) (ev_e0 0))) (ev_tn (ev_tn (ev_tl ev_cel204) (ev_e0 0)) (ev_e0 1)))) (ev_tn (ev_tn (ev_tn (ev_tn (ev_tl ev_cel44) (ev_e0 0)) (ev_tn (ev_tl ev_cel300) (ev_e0 0))) (ev_tn (ev_tn (ev_tl ev_cel172) (ev_e0 0)) (ev_tn (ev_tl ev_cel428) (ev_e0 0)))) (ev_tn (ev_tn (ev_tn (ev_tl ev_cel108) (ev_e0 0)) (ev_tn (ev_tl ev_cel364) (ev_e0 0))) (ev_tn (ev_tn (ev_tl ev_cel236) (ev_e0 0)) (ev_e0 1))))
noncomputable def ev_pic_13 : ev_T (Option ev_C) 5 := ev_tn (ev_tn (ev_tn (ev_tn (ev_tn (ev_tl ev_cel13) (ev_e0 0)) (ev_tn (ev_tl ev_cel269) (ev_e0 0))) (ev_tn (ev_tn (ev_tl ev_cel141) (ev_e0 0)) (ev_tn (ev_tl ev_cel397) (ev_e0 0)))) (ev_tn (ev_tn (ev_tn (ev_tl ev_cel77) (ev_e0 0)) (ev_tn (ev_tl ev_cel333) (ev_e0 0))) (ev_tn (ev_tn (ev_tl ev_cel205) (ev_e0 0)) (ev_e0 1)))) (ev_tn (ev_tn (ev_tn (ev_tn (ev_tl ev_cel45) (ev_e0 0)) (ev_tn (ev_tl ev_cel301) (ev_e0 0))) (ev_tn (ev_tn (ev_tl ev_cel173) (ev_e0 0)) (ev_tn (ev_tl ev_cel429) (ev_e0 0)))) (ev_tn (ev_tn (ev_tn (ev_tl ev_cel109) (ev_e0 0)) (ev_tn (ev_tl ev_cel365) (ev_e0 0))) (ev_tn (ev_tn (ev_tl ev_cel237) (ev_e0 0)) (ev_e0 1))))
noncomputable def ev_pic_14 : ev_T (Option ev_C) 5 := ev_tn (ev_tn (ev_tn (ev_tn (ev_tn (ev_tl ev_cel14) (ev_e0 0)) (ev_tn (ev_tl ev_cel270) (ev_e0 0))) (ev_tn (ev_tn (ev_tl ev_cel142) (ev_e0 0)) (ev_tn (ev_tl ev_cel398) (ev_e0 0)))) (ev_tn (ev_tn (ev_tn (ev_tl ev_cel78) (ev_e0 0)) (ev_tn (ev_tl ev_cel334) (ev_e0 0))) (ev_tn (ev_tn (ev_tl ev_cel206) (ev_e0 0)) (ev_e0 1)))) (ev_tn (ev_tn (ev_tn (ev_tn (ev_tl ev_cel46) (ev_e0 0)) (ev_tn (ev_tl ev_cel302) (ev_e0 0))) (ev_tn (ev_tn (ev_tl ev_cel174) (ev_e0 0)) (ev_tn (ev_tl ev_cel430) (ev_e0 0)))) (ev_tn (ev_tn (ev_tn (ev_tl ev_cel110) (ev_e0 0)) (ev_tn (ev_tl ev_cel366) (ev_e0 0))) (ev_tn (ev_tn (ev_tl ev_cel238) (ev_e0 0)) (ev_e0 1))))
noncomputable def ev_pic_15 : ev_T (Option ev_C) 5 := ev_tn (ev_tn (ev_tn (ev_tn (ev_tn (ev_tl ev_cel15) (ev_e0 0)) (ev_tn (ev_tl ev_cel271) (ev_e0 0))) (ev_tn (ev_tn (ev_tl ev_cel143) (ev_e0 0)) (ev_tn (ev_tl ev_cel399) (ev_e0 0)))) (ev_tn (ev_tn (ev_tn (ev_tl ev_cel79) (ev_e0 0)) (ev_tn (ev_tl ev_cel335) (ev_e0 0))) (ev_tn (ev_tn (ev_tl ev_cel207) (ev_e0 0)) (ev_e0 1)))) (ev_tn (ev_tn (ev_tn (ev_tn (ev_tl ev_cel47) (ev_e0 0)) (ev_tn (ev_tl ev_cel303) (ev_e0 0))) (ev_tn (ev_tn (ev_tl ev_cel175) (ev_e0 0)) (ev_tn (ev_tl ev_cel431) (ev_e0 0)))) (ev_tn (ev_tn (ev_tn (ev_tl ev_cel111) (ev_e0 0)) (ev_tn (ev_tl ev_cel367) (ev_e0 0))) (ev_tn (ev_tn (ev_tl ev_cel239) (ev_e0 0)) (ev_e0 1))))
noncomputable def ev_pic_16 : ev_T (Option ev_C) 5 := ev_tn (ev_tn (ev_tn (ev_tn (ev_tn (ev_tl ev_cel16) (ev_e0 0)) (ev_tn (ev_tl ev_cel272) (ev_e0 0))) (ev_tn (ev_tn (ev_tl ev_cel144) (ev_e0 0)) (ev_tn (ev_tl ev_cel400) (ev_e0 0)))) (ev_tn (ev_tn (ev_tn (ev_tl ev_cel80) (ev_e0 0)) (ev_tn (ev_tl ev_cel336) (ev_e0 0))) (ev_tn (ev_tn (ev_tl ev_cel208) (ev_e0 0)) (ev_e0 1)))) (ev_tn (ev_tn (ev_tn (ev_tn (ev_tl ev_cel48) (ev_e0 0)) (ev_tn (ev_tl ev_cel304) (ev_e0 0))) (ev_tn (ev_tn (ev_tl ev_cel176) (ev_e0 0)) (ev_e0 1))) (ev_tn (ev_tn (ev_tn (ev_tl ev_cel112) (ev_e0 0)) (ev_tn (ev_tl ev_cel368) (ev_e0 0))) (ev_tn (ev_tn (ev_tl ev_cel240) (ev_e0 0)) (ev_e0 1))))
noncomputable def ev_pic_17 : ev_T (Option ev_C) 5 := ev_tn (ev_tn (ev_tn (ev_tn (ev_tn (ev_tl ev_cel17) (ev_e0 0)) (ev_tn (ev_tl ev_cel273) (ev_e0 0))) (ev_tn (ev_tn (ev_tl ev_cel145) (ev_e0 0)) (ev_tn (ev_tl ev_cel401) (ev_e0 0)))) (ev_tn (ev_tn (ev_tn (ev_tl ev_cel81) (ev_e0 0)) (ev_tn (ev_tl ev_cel337) (ev_e0 0))) (ev_tn (ev_tn (ev_tl ev_cel209) (ev_e0 0)) (ev_e0 1)))) (ev_tn (ev_tn (ev_tn (ev_tn (ev_tl ev_cel49) (ev_e0 0)) (ev_tn (ev_tl ev_cel305) (ev_e0 0))) (ev_tn (ev_tn (ev_tl ev_cel177) (ev_e0 0)) (ev_e0 1))) (ev_tn (ev_tn (ev_tn (ev_tl ev_cel113) (ev_e0 0)) (ev_tn (ev_tl ev_cel369) (ev_e0 0))) (ev_tn (ev_tn (ev_tl ev_cel241) (ev_e0 0)) (ev_e0 1))))
noncomputable def ev_pic_18 : ev_T (Option ev_C) 5 := ev_tn (ev_tn (ev_tn (ev_tn (ev_tn (ev_tl ev_cel18) (ev_e0 0)) (ev_tn (ev_tl ev_cel274) (ev_e0 0))) (ev_tn (ev_tn (ev_tl ev_cel146) (ev_e0 0)) (ev_tn (ev_tl ev_cel402) (ev_e0 0)))) (ev_tn (ev_tn (ev_tn (ev_tl ev_cel82) (ev_e0 0)) (ev_tn (ev_tl ev_cel338) (ev_e0 0))) (ev_tn (ev_tn (ev_tl ev_cel210) (ev_e0 0)) (ev_e0 1)))) (ev_tn (ev_tn (ev_tn (ev_tn (ev_tl ev_cel50) (ev_e0 0)) (ev_tn (ev_tl ev_cel306) (ev_e0 0))) (ev_tn (ev_tn (ev_tl ev_cel178) (ev_e0 0)) (ev_e0 1))) (ev_tn (ev_tn (ev_tn (ev_tl ev_cel114) (ev_e0 0)) (ev_tn (ev_tl ev_cel370) (ev_e0 0))) (ev_tn (ev_tn (ev_tl ev_cel242) (ev_e0 0)) (ev_e0 1))))
noncomputable def ev_pic_19 : ev_T (Option ev_C) 5 := ev_tn (ev_tn (ev_tn (ev_tn (ev_tn (ev_tl ev_cel19) (ev_e0 0)) (ev_tn (ev_tl ev_cel275) (ev_e0 0))) (ev_tn (ev_tn (ev_tl ev_cel147) (ev_e0 0)) (ev_tn (ev_tl ev_cel403) (ev_e0 0)))) (ev_tn (ev_tn (ev_tn (ev_tl ev_cel83) (ev_e0 0)) (ev_tn (ev_tl ev_cel339) (ev_e0 0))) (ev_tn (ev_tn (ev_tl ev_cel211) (ev_e0 0)) (ev_e0 1)))) (ev_tn (ev_tn (ev_tn (ev_tn (ev_tl ev_cel51) (ev_e0 0)) (ev_tn (ev_tl ev_cel307) (ev_e0 0))) (ev_tn (ev_tn (ev_tl ev_cel179) (ev_e0 0)) (ev_e0 1))) (ev_tn (ev_tn (ev_tn (ev_tl ev_cel115) (ev_e0 0)) (ev_tn (ev_tl ev_cel371) (ev_e0 0))) (ev_tn (ev_tn (ev_tl ev_cel243) (ev_e0 0)) (ev_e0 1))))
noncomputable def ev_pic_20 : ev_T (Option ev_C) 5 := ev_tn (ev_tn (ev_tn (ev_tn (ev_tn (ev_tl ev_cel20) (ev_e0 0)) (ev_tn (ev_tl ev_cel276) (ev_e0 0))) (ev_tn (ev_tn (ev_tl ev_cel148) (ev_e0 0)) (ev_tn (ev_tl ev_cel404) (ev_e0 0)))) (ev_tn (ev_tn (ev_tn (ev_tl ev_cel84) (ev_e0 0)) (ev_tn (ev_tl ev_cel340) (ev_e0 0))) (ev_tn (ev_tn (ev_tl ev_cel212) (ev_e0 0)) (ev_e0 1)))) (ev_tn (ev_tn (ev_tn (ev_tn (ev_tl ev_cel52) (ev_e0 0)) (ev_tn (ev_tl ev_cel308) (ev_e0 0))) (ev_tn (ev_tn (ev_tl ev_cel180) (ev_e0 0)) (ev_e0 1))) (ev_tn (ev_tn (ev_tn (ev_tl ev_cel116) (ev_e0 0)) (ev_tn (ev_tl ev_cel372) (ev_e0 0))) (ev_tn (ev_tn (ev_tl ev_cel244) (ev_e0 0)) (ev_e0 1))))
noncomputable def ev_pic_21 : ev_T (Option ev_C) 5 := ev_tn (ev_tn (ev_tn (ev_tn (ev_tn (ev_tl ev_cel21) (ev_e0 0)) (ev_tn (ev_tl ev_cel277) (ev_e0 0))) (ev_tn (ev_tn (ev_tl ev_cel149) (ev_e0 0)) (ev_tn (ev_tl ev_cel405) (ev_e0 0)))) (ev_tn (ev_tn (ev_tn (ev_tl ev_cel85) (ev_e0 0)) (ev_tn (ev_tl ev_cel341) (ev_e0 0))) (ev_tn (ev_tn (ev_tl ev_cel213) (ev_e0 0)) (ev_e0 1)))) (ev_tn (ev_tn (ev_tn (ev_tn (ev_tl ev_cel53) (ev_e0 0)) (ev_tn (ev_tl ev_cel309) (ev_e0 0))) (ev_tn (ev_tn (ev_tl ev_cel181) (ev_e0 0)) (ev_e0 1))) (ev_tn (ev_tn (ev_tn (ev_tl ev_cel117) (ev_e0 0)) (ev_tn (ev_tl ev_cel373) (ev_e0 0))) (ev_tn (ev_tn (ev_tl ev_cel245) (ev_e0 0)) (ev_e0 1))))
noncomputable def ev_pic_22 : ev_T (Option ev_C) 5 := ev_tn (ev_tn (ev_tn (ev_tn (ev_tn (ev_tl ev_cel22) (ev_e0 0)) (ev_tn (ev_tl ev_cel278) (ev_e0 0))) (ev_tn (ev_tn (ev_tl ev_cel150) (ev_e0 0)) (ev_tn (ev_tl ev_cel406) (ev_e0 0)))) (ev_tn (ev_tn (ev_tn (ev_tl ev_cel86) (ev_e0 0)) (ev_tn (ev_tl ev_cel342) (ev_e0 0))) (ev_tn (ev_tn (ev_tl ev_cel214) (ev_e0 0)) (ev_e0 1)))) (ev_tn (ev_tn (ev_tn (ev_tn (ev_tl ev_cel54) (ev_e0 0)) (ev_tn (ev_tl ev_cel310) (ev_e0 0))) (ev_tn (ev_tn (ev_tl ev_cel182) (ev_e0 0)) (ev_e0 1))) (ev_tn (ev_tn (ev_tn (ev_tl ev_cel118) (ev_e0 0)) (ev_tn (ev_tl ev_cel374) (ev_e0 0))) (ev_tn (ev_tn (ev_tl ev_cel246) (ev_e0 0)) (ev_e0 1))))
noncomputable def ev_pic_23 : ev_T (Option ev_C) 5 := ev_tn (ev_tn (ev_tn (ev_tn (ev_tn (ev_tl ev_cel23) (ev_e0 0)) (ev_tn (ev_tl ev_cel279) (ev_e0 0))) (ev_tn (ev_tn (ev_tl ev_cel151) (ev_e0 0)) (ev_tn (ev_tl ev_cel407) (ev_e0 0)))) (ev_tn (ev_tn (ev_tn (ev_tl ev_cel87) (ev_e0 0)) (ev_tn (ev_tl ev_cel343) (ev_e0 0))) (ev_tn (ev_tn (ev_tl ev_cel215) (ev_e0 0)) (ev_e0 1)))) (ev_tn (ev_tn (ev_tn (ev_tn (ev_tl ev_cel55) (ev_e0 0)) (ev_tn (ev_tl ev_cel311) (ev_e0 0))) (ev_tn (ev_tn (ev_tl ev_cel183) (ev_e0 0)) (ev_e0 1))) (ev_tn (ev_tn (ev_tn (ev_tl ev_cel119) (ev_e0 0)) (ev_tn (ev_tl ev_cel375) (ev_e0 0))) (ev_tn (ev_tn (ev_tl ev_cel247) (ev_e0 0)) (ev_e0 1))))
noncomputable def ev_pic_24 : ev_T (Option ev_C) 5 := ev_tn (ev_tn (ev_tn (ev_tn (ev_tn (ev_tl ev_cel24) (ev_e0 0)) (ev_tn (ev_tl ev_cel280) (ev_e0 0))) (ev_tn (ev_tn (ev_tl ev_cel152) (ev_e0 0)) (ev_tn (ev_tl ev_cel408) (ev_e0 0)))) (ev_tn (ev_tn (ev_tn (ev_tl ev_cel88) (ev_e0 0)) (ev_tn (ev_tl ev_cel344) (ev_e0 0))) (ev_tn (ev_tn (ev_tl ev_cel216) (ev_e0 0)) (ev_e0 1)))) (ev_tn (ev_tn (ev_tn (ev_tn (ev_tl ev_cel56) (ev_e0 0)) (ev_tn (ev_tl ev_cel312) (ev_e0 0))) (ev_tn (ev_tn (ev_tl ev_cel184) (ev_e0 0)) (ev_e0 1))) (ev_tn (ev_tn (ev_tn (ev_tl ev_cel120) (ev_e0 0)) (ev_tn (ev_tl ev_cel376) (ev_e0 0))) (ev_tn (ev_tn (ev_tl ev_cel248) (ev_e0 0)) (ev_e0 1))))
noncomputable def ev_pic_25 : ev_T (Option ev_C) 5 := ev_tn (ev_tn (ev_tn (ev_tn (ev_tn (ev_tl ev_cel25) (ev_e0 0)) (ev_tn (ev_tl ev_cel281) (ev_e0 0))) (ev_tn (ev_tn (ev_tl ev_cel153) (ev_e0 0)) (ev_tn (ev_tl ev_cel409) (ev_e0 0)))) (ev_tn (ev_tn (ev_tn (ev_tl ev_cel89) (ev_e0 0)) (ev_tn (ev_tl ev_cel345) (ev_e0 0))) (ev_tn (ev_tn (ev_tl ev_cel217) (ev_e0 0)) (ev_e0 1)))) (ev_tn (ev_tn (ev_tn (ev_tn (ev_tl ev_cel57) (ev_e0 0)) (ev_tn (ev_tl ev_cel313) (ev_e0 0))) (ev_tn (ev_tn (ev_tl ev_cel185) (ev_e0 0)) (ev_e0 1))) (ev_tn (ev_tn (ev_tn (ev_tl ev_cel121) (ev_e0 0)) (ev_tn (ev_tl ev_cel377) (ev_e0 0))) (ev_tn (ev_tn (ev_tl ev_cel249) (ev_e0 0)) (ev_e0 1))))
noncomputable def ev_pic_26 : ev_T (Option ev_C) 5 := ev_tn (ev_tn (ev_tn (ev_tn (ev_tn (ev_tl ev_cel26) (ev_e0 0)) (ev_tn (ev_tl ev_cel282) (ev_e0 0))) (ev_tn (ev_tn (ev_tl ev_cel154) (ev_e0 0)) (ev_tn (ev_tl ev_cel410) (ev_e0 0)))) (ev_tn (ev_tn (ev_tn (ev_tl ev_cel90) (ev_e0 0)) (ev_tn (ev_tl ev_cel346) (ev_e0 0))) (ev_tn (ev_tn (ev_tl ev_cel218) (ev_e0 0)) (ev_e0 1)))) (ev_tn (ev_tn (ev_tn (ev_tn (ev_tl ev_cel58) (ev_e0 0)) (ev_tn (ev_tl ev_cel314) (ev_e0 0))) (ev_tn (ev_tn (ev_tl ev_cel186) (ev_e0 0)) (ev_e0 1))) (ev_tn (ev_tn (ev_tn (ev_tl ev_cel122) (ev_e0 0)) (ev_tn (ev_tl ev_cel378) (ev_e0 0))) (ev_tn (ev_tn (ev_tl ev_cel250) (ev_e0 0)) (ev_e0 1))))
noncomputable def ev_pic_27 : ev_T (Option ev_C) 5 := ev_tn (ev_tn (ev_tn (ev_tn (ev_tn (ev_tl ev_cel27) (ev_e0 0)) (ev_tn (ev_tl ev_cel283) (ev_e0 0))) (ev_tn (ev_tn (ev_tl ev_cel155) (ev_e0 0)) (ev_tn (ev_tl ev_cel411) (ev_e0 0)))) (ev_tn (ev_tn (ev_tn (ev_tl ev_cel91) (ev_e0 0)) (ev_tn (ev_tl ev_cel347) (ev_e0 0))) (ev_tn (ev_tn (ev_tl ev_cel219) (ev_e0 0)) (ev_e0 1)))) (ev_tn (ev_tn (ev_tn (ev_tn (ev_tl ev_cel59) (ev_e0 0)) (ev_tn (ev_tl ev_cel315) (ev_e0 0))) (ev_tn (ev_tn (ev_tl ev_cel187) (ev_e0 0)) (ev_e0 1))) (ev_tn (ev_tn (ev_tn (ev_tl ev_cel123) (ev_e0 0)) (ev_tn (ev_tl ev_cel379) (ev_e0 0))) (ev_tn (ev_tn (ev_tl ev_cel251) (ev_e0 0)) (ev_e0 1))))
noncomputable def ev_pic_28 : ev_T (Option ev_C) 5 := ev_tn (ev_tn (ev_tn (ev_tn (ev_tn (ev_tl ev_cel28) (ev_e0 0)) (ev_tn (ev_tl ev_cel284) (ev_e0 0))) (ev_tn (ev_tn (ev_tl ev_cel156) (ev_e0 0)) (ev_tn (ev_tl ev_cel412) (ev_e0 0)))) (ev_tn (ev_tn (ev_tn (ev_tl ev_cel92) (ev_e0 0)) (ev_tn (ev_tl ev_cel348) (ev_e0 0))) (ev_tn (ev_tn (ev_tl ev_cel220) (ev_e0 0)) (ev_e0 1)))) (ev_tn (ev_tn (ev_tn (ev_tn (ev_tl ev_cel60) (ev_e0 0)) (ev_tn (ev_tl ev_cel316) (ev_e0 0))) (ev_tn (ev_tn (ev_tl ev_cel188) (ev_e0 0)) (ev_e0 1))) (ev_tn (ev_tn (ev_tn (ev_tl ev_cel124) (ev_e0 0)) (ev_tn (ev_tl ev_cel380) (ev_e0 0))) (ev_tn (ev_tn (ev_tl ev_cel252) (ev_e0 0)) (ev_e0 1))))
noncomputable def ev_pic_29 : ev_T (Option ev_C) 5 := ev_tn (ev_tn (ev_tn (ev_tn (ev_tn (ev_tl ev_cel29) (ev_e0 0)) (ev_tn (ev_tl ev_cel285) (ev_e0 0))) (ev_tn (ev_tn (ev_tl ev_cel157) (ev_e0 0)) (ev_tn (ev_tl ev_cel413) (ev_e0 0)))) (ev_tn (ev_tn (ev_tn (ev_tl ev_cel93) (ev_e0 0)) (ev_tn (ev_tl ev_cel349) (ev_e0 0))) (ev_tn (ev_tn (ev_tl ev_cel221) (ev_e0 0)) (ev_e0 1)))) (ev_tn (ev_tn (ev_tn (ev_tn (ev_tl ev_cel61) (ev_e0 0)) (ev_tn (ev_tl ev_cel317) (ev_e0 0))) (ev_tn (ev_tn (ev_tl ev_cel189) (ev_e0 0)) (ev_e0 1))) (ev_tn (ev_tn (ev_tn (ev_tl ev_cel125) (ev_e0 0)) (ev_tn (ev_tl ev_cel381) (ev_e0 0))) (ev_tn (ev_tn (ev_tl ev_cel253) (ev_e0 0)) (ev_e0 1))))
noncomputable def ev_pic_30 : ev_T (Option ev_C) 5 := ev_tn (ev_tn (ev_tn (ev_tn (ev_tn (ev_tl ev_cel30) (ev_e0 0)) (ev_tn (ev_tl ev_cel286) (ev_e0 0))) (ev_tn (ev_tn (ev_tl ev_cel158) (ev_e0 0)) (ev_tn (ev_tl ev_cel414) (ev_e0 0)))) (ev_tn (ev_tn (ev_tn (ev_tl ev_cel94) (ev_e0 0)) (ev_tn (ev_tl ev_cel350) (ev_e0 0))) (ev_tn (ev_tn (ev_tl ev_cel222) (ev_e0 0)) (ev_e0 1)))) (ev_tn (ev_tn (ev_tn (ev_tn (ev_tl ev_cel62) (ev_e0 0)) (ev_tn (ev_tl ev_cel318) (ev_e0 0))) (ev_tn (ev_tn (ev_tl ev_cel190) (ev_e0 0)) (ev_e0 1))) (ev_tn (ev_tn (ev_tn (ev_tl ev_cel126) (ev_e0 0)) (ev_tn (ev_tl ev_cel382) (ev_e0 0))) (ev_tn (ev_tn (ev_tl ev_cel254) (ev_e0 0)) (ev_e0 1))))
noncomputable def ev_pic_31 : ev_T (Option ev_C) 5 := ev_tn (ev_tn (ev_tn (ev_tn (ev_tn (ev_tl ev_cel31) (ev_e0 0)) (ev_tn (ev_tl ev_cel287) (ev_e0 0))) (ev_tn (ev_tn (ev_tl ev_cel159) (ev_e0 0)) (ev_tn (ev_tl ev_cel415) (ev_e0 0)))) (ev_tn (ev_tn (ev_tn (ev_tl ev_cel95) (ev_e0 0)) (ev_tn (ev_tl ev_cel351) (ev_e0 0))) (ev_tn (ev_tn (ev_tl ev_cel223) (ev_e0 0)) (ev_e0 1)))) (ev_tn (ev_tn (ev_tn (ev_tn (ev_tl ev_cel63) (ev_e0 0)) (ev_tn (ev_tl ev_cel319) (ev_e0 0))) (ev_tn (ev_tn (ev_tl ev_cel191) (ev_e0 0)) (ev_e0 1))) (ev_tn (ev_tn (ev_tn (ev_tl ev_cel127) (ev_e0 0)) (ev_tn (ev_tl ev_cel383) (ev_e0 0))) (ev_tn (ev_tn (ev_tl ev_cel255) (ev_e0 0)) (ev_e0 1))))
noncomputable def ev_pic : ev_T (Option ev_C) 10 := ev_tn (ev_tn (ev_tn (ev_tn (ev_tn (ev_pic_0) (ev_pic_16)) (ev_tn (ev_pic_8) (ev_pic_24))) (ev_tn (ev_tn (ev_pic_4) (ev_pic_20)) (ev_tn (ev_pic_12) (ev_pic_28)))) (ev_tn (ev_tn (ev_tn (ev_pic_2) (ev_pic_18)) (ev_tn (ev_pic_10) (ev_pic_26))) (ev_tn (ev_tn (ev_pic_6) (ev_pic_22)) (ev_tn (ev_pic_14) (ev_pic_30))))) (ev_tn (ev_tn (ev_tn (ev_tn (ev_pic_1) (ev_pic_17)) (ev_tn (ev_pic_9) (ev_pic_25))) (ev_tn (ev_tn (ev_pic_5) (ev_pic_21)) (ev_tn (ev_pic_13) (ev_pic_29)))) (ev_tn (ev_tn (ev_tn (ev_pic_3) (ev_pic_19)) (ev_tn (ev_pic_11) (ev_pic_27))) (ev_tn (ev_tn (ev_pic_7) (ev_pic_23)) (ev_tn (ev_pic_15) (ev_pic_31)))))
noncomputable def ev_L1 : List (Option ev_V) := [some (ev_ext 3000), some (ev_ref 0), some (ev_ref 358), some (ev_ref 431), some (ev_int 0), none, none]
def ev_veq (a b : ev_V) : Bool := match a, b with
  | .inl (a1, a2), .inl (b1, b2) => decide (a1 = b1) && decide (a2 = b2)
  | .inr (.inl (a1, a2)), .inr (.inl (b1, b2)) => decide (a1 = b1) && decide (a2 = b2)
  | .inr (.inr none), .inr (.inr none) => true
  | .inr (.inr (some (.inl i))), .inr (.inr (some (.inl j))) => Nat.beq i j
  | .inr (.inr (some (.inr i))), .inr (.inr (some (.inr j))) => Nat.beq i j
  | _, _ => false
def ev_leq : List ev_V → List ev_V → Bool
  | [], m => (match m with
    | [] => true
    | _ :: _ => false)
  | a :: l, m => (match m with
    | [] => false
    | b :: m => cond (ev_veq a b) (ev_leq l m) false)
def ev_ceq (a b : Option ev_C) : Bool := match a, b with
  | none, none => true
  | some (.inl (i, l)), some (.inl (j, m)) => Nat.beq i j && ev_leq l m
  | some (.inr (i, n, l)), some (.inr (j, k, m)) => Nat.beq i j && (Nat.beq n k && ev_leq l m)
  | _, _ => false
def ev_teq : (n : Nat) → ev_T (Option ev_C) n → ev_T (Option ev_C) n → Bool
  | 0, a, b => ev_ceq a b
  | n + 1, a, b => match (a : ev_T (Option ev_C) n × ev_T (Option ev_C) n), (b : ev_T (Option ev_C) n × ev_T (Option ev_C) n) with
    | (l, r), (l', r') => cond (ev_teq n l l') (ev_teq n r r') false
def ev_Leq : List (Option ev_V) → List (Option ev_V) → Bool
  | [], [] => true
  | none :: l, none :: m => ev_Leq l m
  | some a :: l, some b :: m => cond (ev_veq a b) (ev_Leq l m) false
  | _, _ => false
theorem ev_veq_ok {a b : ev_V} (h : ev_veq a b = true) : a = b := by
  match a, b, h with
  | .inl (a1, a2), .inl (b1, b2), h =>
    have h : (decide (a1 = b1) && decide (a2 = b2)) = true := h
    rw [Bool.and_eq_true, decide_eq_true_eq, decide_eq_true_eq] at h
    rw [h.1, h.2]
  | .inr (.inl (a1, a2)), .inr (.inl (b1, b2)), h =>
    have h : (decide (a1 = b1) && decide (a2 = b2)) = true := h
    rw [Bool.and_eq_true, decide_eq_true_eq, decide_eq_true_eq] at h
    rw [h.1, h.2]
  | .inr (.inr none), .inr (.inr none), _ => rfl
  | .inr (.inr (some (.inl i))), .inr (.inr (some (.inl j))), h => rw [Nat.eq_of_beq_eq_true (show Nat.beq i j = true from h)]
  | .inr (.inr (some (.inr i))), .inr (.inr (some (.inr j))), h => rw [Nat.eq_of_beq_eq_true (show Nat.beq i j = true from h)]
theorem ev_leq_ok : ∀ {l m : List ev_V}, ev_leq l m = true → l = m
  | [], [], _ => rfl
  | a :: l, b :: m, h => by
    have h : cond (ev_veq a b) (ev_leq l m) false = true := h
    cases hv : ev_veq a b with
    | false => rw [hv] at h; cases h
    | true =>
      rw [hv] at h
      rw [ev_veq_ok hv, ev_leq_ok h]
theorem ev_ceq_ok {a b : Option ev_C} (h : ev_ceq a b = true) : a = b := by
  match a, b, h with
  | none, none, _ => rfl
  | some (.inl (i, l)), some (.inl (j, m)), h =>
    have h : (Nat.beq i j && ev_leq l m) = true := h
    rw [Bool.and_eq_true] at h
    rw [Nat.eq_of_beq_eq_true h.1, ev_leq_ok h.2]
  | some (.inr (i, n, l)), some (.inr (j, k, m)), h =>
    have h : (Nat.beq i j && (Nat.beq n k && ev_leq l m)) = true := h
    rw [Bool.and_eq_true, Bool.and_eq_true] at h
    rw [Nat.eq_of_beq_eq_true h.1, Nat.eq_of_beq_eq_true h.2.1, ev_leq_ok h.2.2]
theorem ev_teq_ok : ∀ (n : Nat) {a b : ev_T (Option ev_C) n}, ev_teq n a b = true → a = b
  | 0, a, b, h => ev_ceq_ok h
  | n + 1, (l, r), (l', r'), h => by
    have h : cond (ev_teq n l l') (ev_teq n r r') false = true := h
    cases hv : ev_teq n l l' with
    | false => rw [hv] at h; cases h
    | true =>
      rw [hv] at h
      rw [ev_teq_ok n hv, ev_teq_ok n h]
theorem ev_Leq_ok : ∀ {l m : List (Option ev_V)}, ev_Leq l m = true → l = m
  | [], [], _ => rfl
  | none :: l, none :: m, h => by rw [ev_Leq_ok (show ev_Leq l m = true from h)]
  | some a :: l, some b :: m, h => by
    have h : cond (ev_veq a b) (ev_Leq l m) false = true := h
    cases hv : ev_veq a b with
    | false => rw [hv] at h; cases h
    | true =>
      rw [hv] at h
      rw [ev_veq_ok hv, ev_Leq_ok h]
/-- that place, and that picture -/
def ev_nC : Nat := 432
def ev_nS : Nat := 22140
def ev_nZ : Nat := 432
def ev_isn (stk : List ev_V) : Bool := match stk with
  | [] => true
  | _ :: _ => false
theorem ev_isn_ok {stk : List ev_V} (h : ev_isn stk = true) : stk = [] := by
  cases stk with
  | nil => rfl
  | cons v l => cases h
noncomputable def ev_st1 : ev_S := ([], (ev_L1, ((ev_nZ, ev_pic), (ev_nC, ev_nS))))
noncomputable def ev_chk (pc0 : Nat) (r : Option (Nat × ev_S)) : Bool := match r with
  | some (pc, (stk, L, (sz, t), (c1, n1))) => Nat.beq pc pc0 && (ev_isn stk && (ev_Leq L ev_L1 && (Nat.beq sz ev_nZ && (Nat.beq c1 ev_nC && (Nat.beq n1 ev_nS && ev_teq 10 t ev_pic)))))
  | none => false
theorem ev_chk_ok {pc0 : Nat} {r : Option (Nat × ev_S)} (h : ev_chk pc0 r = true) : r = some (pc0, ev_st1) := by
  cases r with
  | none => cases h
  | some x =>
    obtain ⟨pc, stk, L, ⟨sz, t⟩, c1, n1⟩ := x
    have h : (Nat.beq pc pc0 && (ev_isn stk && (ev_Leq L ev_L1 && (Nat.beq sz ev_nZ && (Nat.beq c1 ev_nC && (Nat.beq n1 ev_nS && ev_teq 10 t ev_pic)))))) = true := h
    rw [Bool.and_eq_true, Bool.and_eq_true, Bool.and_eq_true, Bool.and_eq_true, Bool.and_eq_true, Bool.and_eq_true] at h
    obtain ⟨h1, h0, h2, h3, h4, h5, h6⟩ := h
    have e1 := Nat.eq_of_beq_eq_true h1
    have e0 := ev_isn_ok h0
    have e2 := ev_Leq_ok h2
    have e3 := Nat.eq_of_beq_eq_true h3
    have e4 := Nat.eq_of_beq_eq_true h4
    have e5 := Nat.eq_of_beq_eq_true h5
    have e6 := ev_teq_ok 10 h6
    clear h1 h0 h2 h3 h4 h5 h6
    subst e1 e0 e2 e3 e4 e5 e6
    rfl
/-- the law's end: true -/
def ev_mxC : Nat := 600002
def ev_mxS : Nat := 7302232
def ev_is1 (stk : List ev_V) : Bool := match stk with
  | [.inl (a, b)] => decide (a = 1) && decide (b = 1)
  | _ => false
def ev_fin (r : Option (Nat × Nat × ev_S)) : Bool := match r with
  | some (k, pc, (stk, _, _, (c1, n1))) => Nat.beq k 2 && (Nat.beq pc 613 && (ev_is1 stk && (Nat.ble c1 ev_mxC && Nat.ble n1 ev_mxS)))
  | none => false
theorem ev_is1_ok {stk : List ev_V} (h : ev_is1 stk = true) : stk = [ev_int 1] := by
  match stk, h with
  | [.inl (a, b)], h =>
    have h : (decide (a = 1) && decide (b = 1)) = true := h
    rw [Bool.and_eq_true, decide_eq_true_eq, decide_eq_true_eq] at h
    rw [h.1, h.2]
theorem ev_fin_ok {r : Option (Nat × Nat × ev_S)} (h : ev_fin r = true) : ∃ L hp c1 n1, r = some (2, 613, ([ev_int 1], L, hp, (c1, n1))) ∧ c1 ≤ ev_mxC ∧ n1 ≤ ev_mxS := by
  cases r with
  | none => cases h
  | some x =>
    obtain ⟨k, pc, stk, L, hp, c1, n1⟩ := x
    have h : (Nat.beq k 2 && (Nat.beq pc 613 && (ev_is1 stk && (Nat.ble c1 ev_mxC && Nat.ble n1 ev_mxS)))) = true := h
    rw [Bool.and_eq_true, Bool.and_eq_true, Bool.and_eq_true, Bool.and_eq_true] at h
    obtain ⟨h1, h2, h3, h5, h6⟩ := h
    refine ⟨L, hp, c1, n1, ?_, Nat.le_of_ble_eq_true h5, Nat.le_of_ble_eq_true h6⟩
    rw [Nat.eq_of_beq_eq_true h1, Nat.eq_of_beq_eq_true h2, ev_is1_ok h3]
