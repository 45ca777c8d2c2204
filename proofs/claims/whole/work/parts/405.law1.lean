def fLaw (k : Int32 → Mem → Option (Unit × Mem)) (L : Nat) (xs : Nat → Int32) (p4 : Int32) (μ : Mem) : Option (Unit × Mem) :=
  if ((nI L) - (5 : Int32)) < p4 then (some ((), μ))
  else gd (inb p4 L) (lt ((xs (ix p4)) &&& (63 : Int32)) fun x1 =>
    if x1 = (0 : Int32) then (gd (inb (p4 + (1 : Int32)) L) (bnd (fX11_sign_0 (xs (ix (p4 + (1 : Int32)))) μ) fun r3 m4 =>
      gd (inb (p4 + (1 : Int32)) L) (bnd (fX12_sign_122 (xs (ix (p4 + (1 : Int32)))) m4) fun r5 m6 =>
      if r3 = r5 then (k (p4 + (5 : Int32)) m6)
      else none)))
    else if x1 = (1 : Int32) then (gd (inb (p4 + (1 : Int32)) L) (bnd (fX11_end_0 (xs (ix (p4 + (1 : Int32)))) μ) fun r9 m10 =>
      gd (inb (p4 + (1 : Int32)) L) (bnd (fX12_end_122 (xs (ix (p4 + (1 : Int32)))) m10) fun r11 m12 =>
      if r9 = r11 then (k (p4 + (5 : Int32)) m12)
      else none)))
    else if x1 = (2 : Int32) then (bnd (fX11_prisoners_0 μ) fun r15 m16 =>
      bnd (fX12_prisoners_122 m16) fun r17 m18 =>
      if r15 = r17 then (k (p4 + (5 : Int32)) m18)
      else none)
    else if x1 = (3 : Int32) then (bnd (fX11_values_0 μ) fun r21 m22 =>
      bnd (fX12_values_122 m22) fun r23 m24 =>
      if r21 = r23 then (k (p4 + (5 : Int32)) m24)
      else none)
    else if x1 = (4 : Int32) then (bnd (fX11_witnesses_0 μ) fun r27 m28 =>
      bnd (fX12_witnesses_122 m28) fun r29 m30 =>
      if r27 = r29 then (k (p4 + (5 : Int32)) m30)
      else none)
    else if x1 = (5 : Int32) then (bnd (fX11_law_0 μ) fun r33 m34 =>
      bnd (fX12_law_122 m34) fun r35 m36 =>
      if r33 = r35 then (k (p4 + (5 : Int32)) m36)
      else none)
    else if x1 = (6 : Int32) then (bnd (fX11_rule_0 μ) fun r39 m40 =>
      bnd (fX12_rule_122 m40) fun r41 m42 =>
      if r39 = r41 then (k (p4 + (5 : Int32)) m42)
      else none)
    else if x1 = (7 : Int32) then (gd (inb (p4 + (1 : Int32)) L) (gd (inb (p4 + (2 : Int32)) L) (bnd (fH_prisoner (xs (ix (p4 + (1 : Int32)))) (xs (ix (p4 + (2 : Int32)))) μ) fun r45 m46 =>
      gd (inb (p4 + (1 : Int32)) L) (gd (inb (p4 + (2 : Int32)) L) (bnd (fX12_prisoner_122 (xs (ix (p4 + (1 : Int32)))) (xs (ix (p4 + (2 : Int32)))) m46) fun r47 m48 =>
      bnd (fX12_thrown_122 m48) fun r49 m50 =>
      if r49 = r45 then (if r45 = 0 then (gd (inb (0 : Int32) 1) (if (lg_cmp (gL m50 149 (ix (0 : Int32))) (Int32.toInt64 r47)) = 0 then (k (p4 + (5 : Int32)) m50)
          else none))
        else k (p4 + (5 : Int32)) m50)
      else none)))))
    else if x1 = (8 : Int32) then (gd (inb (p4 + (1 : Int32)) L) (gd (inb (p4 + (2 : Int32)) L) (bnd (fH_witness (xs (ix (p4 + (1 : Int32)))) (xs (ix (p4 + (2 : Int32)))) μ) fun r54 m55 =>
      gd (inb (p4 + (1 : Int32)) L) (gd (inb (p4 + (2 : Int32)) L) (bnd (fX12_witness_122 (xs (ix (p4 + (1 : Int32)))) (xs (ix (p4 + (2 : Int32)))) m55) fun r56 m57 =>
      bnd (fX12_thrown_122 m57) fun r58 m59 =>
      if r58 = r54 then (if r54 = 0 then (gd (inb (0 : Int32) 1) (if (lg_cmp (gL m59 149 (ix (0 : Int32))) (Int32.toInt64 r56)) = 0 then (k (p4 + (5 : Int32)) m59)
          else none))
        else k (p4 + (5 : Int32)) m59)
      else none)))))
    else if x1 = (9 : Int32) then (gd (inb (p4 + (1 : Int32)) L) (bnd (fX11_ends_0 (xs (ix (p4 + (1 : Int32)))) μ) fun r63 m64 =>
      gd (inb (p4 + (1 : Int32)) L) (bnd (fX12_ends_122 (xs (ix (p4 + (1 : Int32)))) m64) fun r65 m66 =>
      if r63 = r65 then (k (p4 + (5 : Int32)) m66)
      else none)))
    else if x1 = (10 : Int32) then (gd (inb (p4 + (1 : Int32)) L) (gd (inb (p4 + (2 : Int32)) L) (gd (inb (p4 + (3 : Int32)) L) (gd (inb (p4 + (4 : Int32)) L) (bnd (fX11_sheet_0 (xs (ix (p4 + (1 : Int32)))) (xs (ix (p4 + (2 : Int32)))) (xs (ix (p4 + (3 : Int32)))) (xs (ix (p4 + (4 : Int32)))) μ) fun r69 m70 =>
      gd (inb (p4 + (1 : Int32)) L) (gd (inb (p4 + (2 : Int32)) L) (gd (inb (p4 + (3 : Int32)) L) (gd (inb (p4 + (4 : Int32)) L) (bnd (fX12_sheet_122 (xs (ix (p4 + (1 : Int32)))) (xs (ix (p4 + (2 : Int32)))) (xs (ix (p4 + (3 : Int32)))) (xs (ix (p4 + (4 : Int32)))) m70) fun r71 m72 =>
      if r69 = r71 then (k (p4 + (5 : Int32)) m72)
      else none)))))))))
    else if x1 = (11 : Int32) then (gd (inb (p4 + (1 : Int32)) L) (gd (inb (p4 + (2 : Int32)) L) (bnd (fX11_lay_0 (xs (ix (p4 + (1 : Int32)))) (xs (ix (p4 + (2 : Int32)))) μ) fun r75 m76 =>
      gd (inb (p4 + (1 : Int32)) L) (gd (inb (p4 + (2 : Int32)) L) (bnd (fX12_lay__122 (xs (ix (p4 + (1 : Int32)))) (xs (ix (p4 + (2 : Int32)))) m76) fun r77 m78 =>
      if r75 = r77 then (k (p4 + (5 : Int32)) m78)
      else none)))))
    else if x1 = (12 : Int32) then (gd (inb (p4 + (1 : Int32)) L) (bnd (fX11_ask_0 (xs (ix (p4 + (1 : Int32)))) μ) fun r81 m82 =>
      gd (inb (p4 + (1 : Int32)) L) (bnd (fX12_ask_122 (xs (ix (p4 + (1 : Int32)))) m82) fun r83 m84 =>
      if r81 = r83 then (k (p4 + (5 : Int32)) m84)
      else none)))
    else if x1 = (13 : Int32) then (gd (inb (p4 + (1 : Int32)) L) (bnd (fX11_judge_0 (xs (ix (p4 + (1 : Int32)))) μ) fun r87 m88 =>
      gd (inb (p4 + (1 : Int32)) L) (bnd (fX12_judge_122 (xs (ix (p4 + (1 : Int32)))) m88) fun r89 m90 =>
      if r87 = r89 then (k (p4 + (5 : Int32)) m90)
      else none)))
    else if x1 = (14 : Int32) then (gd (inb (p4 + (1 : Int32)) L) (bnd (fX11_nights_0 (xs (ix (p4 + (1 : Int32)))) μ) fun r93 m94 =>
      gd (inb (p4 + (1 : Int32)) L) (bnd (fX12_nights_122 (xs (ix (p4 + (1 : Int32)))) m94) fun r95 m96 =>
      if r93 = r95 then (k (p4 + (5 : Int32)) m96)
      else none)))
    else if x1 = (15 : Int32) then (bnd (fX11_assize_0 μ) fun r99 m100 =>
      bnd (fX12_assize_122 m100) fun r101 m102 =>
      if r99 = r101 then (k (p4 + (5 : Int32)) m102)
      else none)
    else if x1 = (16 : Int32) then (bnd (fX11_undo_0 μ) fun r105 m106 =>
      bnd (fX12_undo_122 m106) fun r107 m108 =>
      if r105 = r107 then (k (p4 + (5 : Int32)) m108)
      else none)
    else if x1 = (17 : Int32) then (gd (inb (p4 + (1 : Int32)) L) (gd (inb (p4 + (2 : Int32)) L) (bnd (fX11_left_0 (xs (ix (p4 + (1 : Int32)))) (xs (ix (p4 + (2 : Int32)))) μ) fun r111 m112 =>
      gd (inb (p4 + (1 : Int32)) L) (gd (inb (p4 + (2 : Int32)) L) (bnd (fX12_left_122 (xs (ix (p4 + (1 : Int32)))) (xs (ix (p4 + (2 : Int32)))) m112) fun r113 m114 =>
      if r111 = r113 then (k (p4 + (5 : Int32)) m114)
      else none)))))
    else if x1 = (18 : Int32) then (gd (inb (p4 + (1 : Int32)) L) (bnd (fX11_dies_0 (xs (ix (p4 + (1 : Int32)))) μ) fun r117 m118 =>
      gd (inb (p4 + (1 : Int32)) L) (bnd (fX12_dies_122 (xs (ix (p4 + (1 : Int32)))) m118) fun r119 m120 =>
      if r117 = r119 then (k (p4 + (5 : Int32)) m120)
      else none)))
    else if x1 = (19 : Int32) then (gd (inb (p4 + (1 : Int32)) L) (gd (inb (p4 + (2 : Int32)) L) (bnd (fX11_speaks_0 (xs (ix (p4 + (1 : Int32)))) (xs (ix (p4 + (2 : Int32)))) μ) fun r123 m124 =>
      gd (inb (p4 + (1 : Int32)) L) (gd (inb (p4 + (2 : Int32)) L) (bnd (fX12_speaks_122 (xs (ix (p4 + (1 : Int32)))) (xs (ix (p4 + (2 : Int32)))) m124) fun r125 m126 =>
      if r123 = r125 then (k (p4 + (5 : Int32)) m126)
      else none)))))
    else if x1 = (20 : Int32) then (gd (inb (p4 + (1 : Int32)) L) (gd (inb (p4 + (2 : Int32)) L) (bnd (fX11_least_0 (xs (ix (p4 + (1 : Int32)))) (xs (ix (p4 + (2 : Int32)))) μ) fun r129 m130 =>
      gd (inb (p4 + (1 : Int32)) L) (gd (inb (p4 + (2 : Int32)) L) (bnd (fX12_least_122 (xs (ix (p4 + (1 : Int32)))) (xs (ix (p4 + (2 : Int32)))) m130) fun r131 m132 =>
      if r129 = r131 then (k (p4 + (5 : Int32)) m132)
      else none)))))
    else if x1 = (21 : Int32) then (gd (inb (p4 + (1 : Int32)) L) (gd (inb (p4 + (2 : Int32)) L) (bnd (fX11_mercy_0 (xs (ix (p4 + (1 : Int32)))) (xs (ix (p4 + (2 : Int32)))) μ) fun r135 m136 =>
      gd (inb (p4 + (1 : Int32)) L) (gd (inb (p4 + (2 : Int32)) L) (bnd (fX12_mercy_122 (xs (ix (p4 + (1 : Int32)))) (xs (ix (p4 + (2 : Int32)))) m136) fun r137 m138 =>
      if r135 = r137 then (k (p4 + (5 : Int32)) m138)
      else none)))))
    else if x1 = (22 : Int32) then (gd (inb (p4 + (1 : Int32)) L) (bnd (fX11_longest_0 (xs (ix (p4 + (1 : Int32)))) μ) fun r141 m142 =>
      gd (inb (p4 + (1 : Int32)) L) (bnd (fX12_longest_122 (xs (ix (p4 + (1 : Int32)))) m142) fun r143 m144 =>
      if r141 = r143 then (k (p4 + (5 : Int32)) m144)
      else none)))
    else if x1 = (23 : Int32) then (gd (inb (p4 + (1 : Int32)) L) (gd (inb (p4 + (2 : Int32)) L) (bnd (fX11_alike_0 (xs (ix (p4 + (1 : Int32)))) (xs (ix (p4 + (2 : Int32)))) μ) fun r147 m148 =>
      gd (inb (p4 + (1 : Int32)) L) (gd (inb (p4 + (2 : Int32)) L) (bnd (fX12_alike_122 (xs (ix (p4 + (1 : Int32)))) (xs (ix (p4 + (2 : Int32)))) m148) fun r149 m150 =>
      if r147 = r149 then (k (p4 + (5 : Int32)) m150)
      else none)))))
    else if x1 = (24 : Int32) then (gd (inb (p4 + (1 : Int32)) L) (bnd (fX11_stones_0 (xs (ix (p4 + (1 : Int32)))) μ) fun r153 m154 =>
      gd (inb (p4 + (1 : Int32)) L) (bnd (fX12_stones_122 (xs (ix (p4 + (1 : Int32)))) m154) fun r155 m156 =>
      if r153 = r155 then (k (p4 + (5 : Int32)) m156)
      else none)))
    else if x1 = (25 : Int32) then (gd (inb (p4 + (1 : Int32)) L) (bnd (fX11_silent_0 (xs (ix (p4 + (1 : Int32)))) μ) fun r159 m160 =>
      gd (inb (p4 + (1 : Int32)) L) (bnd (fX12_silent_122 (xs (ix (p4 + (1 : Int32)))) m160) fun r161 m162 =>
      if r159 = r161 then (k (p4 + (5 : Int32)) m162)
      else none)))
    else if x1 = (26 : Int32) then (gd (inb (p4 + (1 : Int32)) L) (gd (inb (p4 + (2 : Int32)) L) (bnd (fX11_proof_0 (xs (ix (p4 + (1 : Int32)))) (xs (ix (p4 + (2 : Int32)))) μ) fun r165 m166 =>
      gd (inb (p4 + (1 : Int32)) L) (gd (inb (p4 + (2 : Int32)) L) (bnd (fX12_proof_122 (xs (ix (p4 + (1 : Int32)))) (xs (ix (p4 + (2 : Int32)))) m166) fun r167 m168 =>
      if r165 = r167 then (k (p4 + (5 : Int32)) m168)
      else none)))))
    else if x1 = (27 : Int32) then (gd (inb (p4 + (1 : Int32)) L) (bnd (fX11_till_0 (xs (ix (p4 + (1 : Int32)))) μ) fun r171 m172 =>
      gd (inb (p4 + (1 : Int32)) L) (bnd (fX12_till_122 (xs (ix (p4 + (1 : Int32)))) m172) fun r173 m174 =>
      if r171 = r173 then (k (p4 + (5 : Int32)) m174)
      else none)))
    else if x1 = (28 : Int32) then (gd (inb (p4 + (1 : Int32)) L) (gd (inb (p4 + (2 : Int32)) L) (bnd (fX11_gains_0 (xs (ix (p4 + (1 : Int32)))) (xs (ix (p4 + (2 : Int32)))) μ) fun r177 m178 =>
      gd (inb (p4 + (1 : Int32)) L) (gd (inb (p4 + (2 : Int32)) L) (bnd (fX12_gains_122 (xs (ix (p4 + (1 : Int32)))) (xs (ix (p4 + (2 : Int32)))) m178) fun r179 m180 =>
      if r177 = r179 then (k (p4 + (5 : Int32)) m180)
      else none)))))
    else if x1 = (29 : Int32) then (gd (inb (p4 + (1 : Int32)) L) (gd (inb (p4 + (2 : Int32)) L) (bnd (fX11_lacks_0 (xs (ix (p4 + (1 : Int32)))) (xs (ix (p4 + (2 : Int32)))) μ) fun r183 m184 =>
      gd (inb (p4 + (1 : Int32)) L) (gd (inb (p4 + (2 : Int32)) L) (bnd (fX12_lacks_122 (xs (ix (p4 + (1 : Int32)))) (xs (ix (p4 + (2 : Int32)))) m184) fun r185 m186 =>
      if r183 = r185 then (k (p4 + (5 : Int32)) m186)
      else none)))))
    else if x1 = (30 : Int32) then (gd (inb (p4 + (1 : Int32)) L) (bnd (fX11_best_0 (xs (ix (p4 + (1 : Int32)))) μ) fun r189 m190 =>
      gd (inb (p4 + (1 : Int32)) L) (bnd (fX12_best_122 (xs (ix (p4 + (1 : Int32)))) m190) fun r191 m192 =>
      if r189 = r191 then (k (p4 + (5 : Int32)) m192)
      else none)))
    else if x1 = (31 : Int32) then (bnd (fX11_trials_0 μ) fun r195 m196 =>
      bnd (fX12_trials_122 m196) fun r197 m198 =>
      if r195 = r197 then (k (p4 + (5 : Int32)) m198)
      else none)
    else if x1 = (32 : Int32) then (bnd (fX11_docket_0 μ) fun r201 m202 =>
      bnd (fX12_docket_122 m202) fun r203 m204 =>
      if r201 = r203 then (k (p4 + (5 : Int32)) m204)
      else none)
    else if x1 = (33 : Int32) then (bnd (fX11_parts_0 μ) fun r207 m208 =>
      bnd (fX12_parts_122 m208) fun r209 m210 =>
      if r207 = r209 then (k (p4 + (5 : Int32)) m210)
      else none)
    else if x1 = (34 : Int32) then (gd (inb (p4 + (1 : Int32)) L) (bnd (fX11_hopes_0 (xs (ix (p4 + (1 : Int32)))) μ) fun r213 m214 =>
      gd (inb (p4 + (1 : Int32)) L) (bnd (fX12_hopes_122 (xs (ix (p4 + (1 : Int32)))) m214) fun r215 m216 =>
      if r213 = r215 then (k (p4 + (5 : Int32)) m216)
      else none)))
    else if x1 = (35 : Int32) then (bnd (fX11_reading_0 μ) fun r219 m220 =>
      bnd (fX12_reading_122 m220) fun r221 m222 =>
      if r219 = r221 then (k (p4 + (5 : Int32)) m222)
      else none)
    else if x1 = (36 : Int32) then (gd (inb (p4 + (1 : Int32)) L) (bnd (fX11_wants_0 (xs (ix (p4 + (1 : Int32)))) μ) fun r225 m226 =>
      gd (inb (p4 + (1 : Int32)) L) (bnd (fX12_wants_122 (xs (ix (p4 + (1 : Int32)))) m226) fun r227 m228 =>
      if r225 = r227 then (k (p4 + (5 : Int32)) m228)
      else none)))
    else if x1 = (37 : Int32) then (gd (inb (p4 + (1 : Int32)) L) (gd (inb (p4 + (2 : Int32)) L) (gd (inb (p4 + (3 : Int32)) L) (bnd (fX11_dumb_0 (xs (ix (p4 + (1 : Int32)))) (xs (ix (p4 + (2 : Int32)))) (xs (ix (p4 + (3 : Int32)))) μ) fun r231 m232 =>
      gd (inb (p4 + (1 : Int32)) L) (gd (inb (p4 + (2 : Int32)) L) (gd (inb (p4 + (3 : Int32)) L) (bnd (fX12_dumb_122 (xs (ix (p4 + (1 : Int32)))) (xs (ix (p4 + (2 : Int32)))) (xs (ix (p4 + (3 : Int32)))) m232) fun r233 m234 =>
      if r231 = r233 then (k (p4 + (5 : Int32)) m234)
      else none)))))))
    else if x1 = (38 : Int32) then (gd (inb (p4 + (1 : Int32)) L) (gd (inb (p4 + (2 : Int32)) L) (gd (inb (p4 + (3 : Int32)) L) (bnd (fX11_sure_0 (xs (ix (p4 + (1 : Int32)))) (xs (ix (p4 + (2 : Int32)))) (xs (ix (p4 + (3 : Int32)))) μ) fun r237 m238 =>
      gd (inb (p4 + (1 : Int32)) L) (gd (inb (p4 + (2 : Int32)) L) (gd (inb (p4 + (3 : Int32)) L) (bnd (fX12_sure_122 (xs (ix (p4 + (1 : Int32)))) (xs (ix (p4 + (2 : Int32)))) (xs (ix (p4 + (3 : Int32)))) m238) fun r239 m240 =>
      if r237 = r239 then (k (p4 + (5 : Int32)) m240)
      else none)))))))
    else if x1 = (39 : Int32) then (gd (inb (p4 + (1 : Int32)) L) (gd (inb (p4 + (2 : Int32)) L) (bnd (fX11_house_0 (xs (ix (p4 + (1 : Int32)))) (xs (ix (p4 + (2 : Int32)))) μ) fun r243 m244 =>
      gd (inb (p4 + (1 : Int32)) L) (gd (inb (p4 + (2 : Int32)) L) (bnd (fX12_house_122 (xs (ix (p4 + (1 : Int32)))) (xs (ix (p4 + (2 : Int32)))) m244) fun r245 m246 =>
      if r243 = r245 then (k (p4 + (5 : Int32)) m246)
      else none)))))
    else if x1 = (40 : Int32) then (gd (inb (p4 + (1 : Int32)) L) (gd (inb (p4 + (2 : Int32)) L) (bnd (fX11_search_0 (xs (ix (p4 + (1 : Int32)))) (xs (ix (p4 + (2 : Int32)))) μ) fun r249 m250 =>
      gd (inb (p4 + (1 : Int32)) L) (gd (inb (p4 + (2 : Int32)) L) (bnd (fX12_search_122 (xs (ix (p4 + (1 : Int32)))) (xs (ix (p4 + (2 : Int32)))) m250) fun r251 m252 =>
      if r249 = r251 then (k (p4 + (5 : Int32)) m252)
      else none)))))
    else if x1 = (41 : Int32) then (gd (inb (p4 + (1 : Int32)) L) (gd (inb (p4 + (2 : Int32)) L) (bnd (fX11_rests_0 (xs (ix (p4 + (1 : Int32)))) (xs (ix (p4 + (2 : Int32)))) μ) fun r255 m256 =>
      gd (inb (p4 + (1 : Int32)) L) (gd (inb (p4 + (2 : Int32)) L) (bnd (fX12_rests_122 (xs (ix (p4 + (1 : Int32)))) (xs (ix (p4 + (2 : Int32)))) m256) fun r257 m258 =>
      if r255 = r257 then (k (p4 + (5 : Int32)) m258)
      else none)))))
    else if x1 = (42 : Int32) then (gd (inb (p4 + (1 : Int32)) L) (gd (inb (p4 + (2 : Int32)) L) (bnd (fX11_years_0 (xs (ix (p4 + (1 : Int32)))) (xs (ix (p4 + (2 : Int32)))) μ) fun r261 m262 =>
      gd (inb (p4 + (1 : Int32)) L) (gd (inb (p4 + (2 : Int32)) L) (bnd (fX12_years_122 (xs (ix (p4 + (1 : Int32)))) (xs (ix (p4 + (2 : Int32)))) m262) fun r263 m264 =>
      if r261 = r263 then (k (p4 + (5 : Int32)) m264)
      else none)))))
    else if x1 = (43 : Int32) then (gd (inb (p4 + (1 : Int32)) L) (bnd (fX11_keep_0 (xs (ix (p4 + (1 : Int32)))) μ) fun r267 m268 =>
      gd (inb (p4 + (1 : Int32)) L) (bnd (fX12_keep_122 (xs (ix (p4 + (1 : Int32)))) m268) fun r269 m270 =>
      if r267 = r269 then (k (p4 + (5 : Int32)) m270)
      else none)))
    else if x1 = (44 : Int32) then (gd (inb (p4 + (1 : Int32)) L) (bnd (fX11_again_0 (xs (ix (p4 + (1 : Int32)))) μ) fun r273 m274 =>
      gd (inb (p4 + (1 : Int32)) L) (bnd (fX12_again_122 (xs (ix (p4 + (1 : Int32)))) m274) fun r275 m276 =>
      if r273 = r275 then (k (p4 + (5 : Int32)) m276)
      else none)))
    else if x1 = (45 : Int32) then (gd (inb (p4 + (1 : Int32)) L) (bnd (fX11_count_0 (xs (ix (p4 + (1 : Int32)))) μ) fun r279 m280 =>
      gd (inb (p4 + (1 : Int32)) L) (bnd (fX12_count_122 (xs (ix (p4 + (1 : Int32)))) m280) fun r281 m282 =>
      if r279 = r281 then (k (p4 + (5 : Int32)) m282)
      else none)))
    else if x1 = (46 : Int32) then (gd (inb (p4 + (1 : Int32)) L) (bnd (fH_row (xs (ix (p4 + (1 : Int32)))) μ) fun r285 m286 =>
      gd (inb (p4 + (1 : Int32)) L) (bnd (fX12_row_122 (xs (ix (p4 + (1 : Int32)))) m286) fun r287 m288 =>
      bnd (fX12_thrown_122 m288) fun r289 m290 =>
      if r289 = r285 then (if r285 = 0 then (gd (inb (0 : Int32) 1) (if (lg_cmp (gL m290 149 (ix (0 : Int32))) r287) = 0 then (k (p4 + (5 : Int32)) m290)
          else none))
        else k (p4 + (5 : Int32)) m290)
      else none)))
    else k (p4 + (5 : Int32)) μ)
set_option maxRecDepth 100000 in
set_option maxHeartbeats 8000000 in
theorem law_body {E : En} {l : Launch} {Z : Zt} (hI : Inj E) (hst : l.stackTraces = false) (hl0 : lZ l Z) (X : Cx E Z cL_law RL 8 513) (hT : zKT E Z) (hrm : zroom Z) {b L : Nat} {xs : Nat → Int32} (hX : zX Z E b L xs) {Qf : Unit → Mem → State → Prop} {k : Int32 → Mem → Option (Unit × Mem)} (hk : ∀ (p4 : Int32) (m : Mem), AO E (Zi Z) 8 Qf 23 [(0, .ref b), (1, .ref (eAd E 0)), (2, .ref (eAd E 122)), (3, .ref (eAd E 149)), (4, .int p4)] [] m (k p4 m)) (hend : ∀ m : Mem, AO E Z 8 Qf 1645 [] [] m (some ((), m))) (p4 : Int32) (μ : Mem) : AO E Z 8 Qf 23 [(0, .ref b), (1, .ref (eAd E 0)), (2, .ref (eAd E 122)), (3, .ref (eAd E 149)), (4, .int p4)] [] μ (fLaw k L xs p4 μ) := by
  unfold fLaw
  refine ao_iload (pc := 23) X dL_law_23 rfl ?_
  refine ao_aload_n (pc := 25) X dL_law_25 rfl ?_
  refine ao_blen (pc := 26) X hX dL_law_26 ?_
  refine ao_iconst (pc := 27) X dL_law_27 ic_5 ?_
  refine ao_isub (pc := 28) X dL_law_28 ?_
  refine ao_icmp_gt (pc := 29) (tgt := 1645) X dL_law_29 (by decide) (fun _ => ?_) (fun _ => ?_)
  · exact ao_sub [] rfl (hend _)
  · refine ao_aload_n (pc := 32) X dL_law_32 rfl ?_
    refine ao_iload (pc := 33) X dL_law_33 rfl ?_
    refine ao_bld (pc := 35) X hX dL_law_35 ?_
    refine ao_bipush (pc := 36) X dL_law_36 bp_63 ?_
    refine ao_iand (pc := 38) X dL_law_38 ?_
    refine ao_ltI (fun x1 => ?_)
    refine ao_ite (cd := x1 = (0 : Int32)) (fun c => ao_tabIn (pc := 39) (k := (0 : Int32)) (tgt := 240) X dL_law_39 c (by decide) (by decide) rfl (by decide) ?_) (fun n2 => ?_)
    · refine ao_aload_n (pc := 240) X dL_law_240 rfl ?_
      refine ao_aload_n (pc := 241) X dL_law_241 rfl ?_
      refine ao_iload (pc := 242) X dL_law_242 rfl ?_
      refine ao_iconst (pc := 244) X dL_law_244 ic_1 ?_
      refine ao_iadd (pc := 245) X dL_law_245 ?_
      refine ao_bld (pc := 246) X hX dL_law_246 ?_
      refine ao_callVI (pc := 247) (As := [.int (xs (ix (p4 + (1 : Int32))))]) (st := []) X hl0 dL_law_247 yv_X11_sign so_0 ml_RL_26 (mX11_sign_0 hI (xs (ix (p4 + (1 : Int32)))) μ) (Nat.le_of_ble_eq_true rfl) rfl rfl (Nat.le_of_ble_eq_true rfl) (fun r3 m4 => ?_)
      refine ao_aload_n (pc := 250) X dL_law_250 rfl ?_
      refine ao_aload_n (pc := 251) X dL_law_251 rfl ?_
      refine ao_iload (pc := 252) X dL_law_252 rfl ?_
      refine ao_iconst (pc := 254) X dL_law_254 ic_1 ?_
      refine ao_iadd (pc := 255) X dL_law_255 ?_
      refine ao_bld (pc := 256) X hX dL_law_256 ?_
      refine ao_callVI (pc := 257) (As := [.int (xs (ix (p4 + (1 : Int32))))]) (st := [.int r3]) X hl0 dL_law_257 yv_X12_sign so_122 ml_RL_30 (mX12_sign_122 hI (xs (ix (p4 + (1 : Int32)))) m4) (Nat.le_of_ble_eq_true rfl) rfl rfl (Nat.le_of_ble_eq_true rfl) (fun r5 m6 => ?_)
      refine ao_icmp_eq (pc := 260) (tgt := 1639) X dL_law_260 (by decide) (fun _ => ?_) (fun _ => ?_)
      · refine ao_iinc (pc := 1639) (k := 4) (v := p4 + (5 : Int32)) (lv' := [(4, .int (p4 + (5 : Int32))), (0, .ref b), (1, .ref (eAd E 0)), (2, .ref (eAd E 122)), (3, .ref (eAd E 149))]) X dL_law_1639 rfl (ii_ic ic_5) (by decide) rfl ?_
        refine ao_goto (pc := 1642) (tgt := 23) X dL_law_1642 (by decide) ?_
        refine ao_sub [1, 2, 3, 4, 0] rfl ?_
        refine ao_bump ?_
        exact hk (p4 + (5 : Int32)) m6
      · refine ao_iconst (pc := 263) X dL_law_263 ic_0 ?_
        exact ao_none
    refine ao_ite (cd := x1 = (1 : Int32)) (fun c => ao_tabIn (pc := 39) (k := (1 : Int32)) (tgt := 265) X dL_law_39 c (by decide) (by decide) rfl (by decide) ?_) (fun n8 => ?_)
    · refine ao_aload_n (pc := 265) X dL_law_265 rfl ?_
      refine ao_aload_n (pc := 266) X dL_law_266 rfl ?_
      refine ao_iload (pc := 267) X dL_law_267 rfl ?_
      refine ao_iconst (pc := 269) X dL_law_269 ic_1 ?_
      refine ao_iadd (pc := 270) X dL_law_270 ?_
      refine ao_bld (pc := 271) X hX dL_law_271 ?_
      refine ao_callVI (pc := 272) (As := [.int (xs (ix (p4 + (1 : Int32))))]) (st := []) X hl0 dL_law_272 yv_X11_end so_0 ml_RL_31 (mX11_end_0 hI (xs (ix (p4 + (1 : Int32)))) μ) (Nat.le_of_ble_eq_true rfl) rfl rfl (Nat.le_of_ble_eq_true rfl) (fun r9 m10 => ?_)
      refine ao_aload_n (pc := 275) X dL_law_275 rfl ?_
      refine ao_aload_n (pc := 276) X dL_law_276 rfl ?_
      refine ao_iload (pc := 277) X dL_law_277 rfl ?_
      refine ao_iconst (pc := 279) X dL_law_279 ic_1 ?_
      refine ao_iadd (pc := 280) X dL_law_280 ?_
      refine ao_bld (pc := 281) X hX dL_law_281 ?_
      refine ao_callVI (pc := 282) (As := [.int (xs (ix (p4 + (1 : Int32))))]) (st := [.int r9]) X hl0 dL_law_282 yv_X12_end so_122 ml_RL_35 (mX12_end_122 hI (xs (ix (p4 + (1 : Int32)))) m10) (Nat.le_of_ble_eq_true rfl) rfl rfl (Nat.le_of_ble_eq_true rfl) (fun r11 m12 => ?_)
      refine ao_icmp_eq (pc := 285) (tgt := 1639) X dL_law_285 (by decide) (fun _ => ?_) (fun _ => ?_)
      · refine ao_iinc (pc := 1639) (k := 4) (v := p4 + (5 : Int32)) (lv' := [(4, .int (p4 + (5 : Int32))), (0, .ref b), (1, .ref (eAd E 0)), (2, .ref (eAd E 122)), (3, .ref (eAd E 149))]) X dL_law_1639 rfl (ii_ic ic_5) (by decide) rfl ?_
        refine ao_goto (pc := 1642) (tgt := 23) X dL_law_1642 (by decide) ?_
        refine ao_sub [1, 2, 3, 4, 0] rfl ?_
        refine ao_bump ?_
        exact hk (p4 + (5 : Int32)) m12
      · refine ao_iconst (pc := 288) X dL_law_288 ic_0 ?_
        exact ao_none
    refine ao_ite (cd := x1 = (2 : Int32)) (fun c => ao_tabIn (pc := 39) (k := (2 : Int32)) (tgt := 290) X dL_law_39 c (by decide) (by decide) rfl (by decide) ?_) (fun n14 => ?_)
    · refine ao_aload_n (pc := 290) X dL_law_290 rfl ?_
      refine ao_callVI (pc := 291) (As := []) (st := []) X hl0 dL_law_291 yv_X11_prisoners so_0 ml_RL_36 (mX11_prisoners_0 hI μ) (Nat.le_of_ble_eq_true rfl) rfl rfl (Nat.le_of_ble_eq_true rfl) (fun r15 m16 => ?_)
      refine ao_aload_n (pc := 294) X dL_law_294 rfl ?_
      refine ao_callVI (pc := 295) (As := []) (st := [.int r15]) X hl0 dL_law_295 yv_X12_prisoners so_122 ml_RL_40 (mX12_prisoners_122 hI m16) (Nat.le_of_ble_eq_true rfl) rfl rfl (Nat.le_of_ble_eq_true rfl) (fun r17 m18 => ?_)
      refine ao_icmp_eq (pc := 298) (tgt := 1639) X dL_law_298 (by decide) (fun _ => ?_) (fun _ => ?_)
      · refine ao_iinc (pc := 1639) (k := 4) (v := p4 + (5 : Int32)) (lv' := [(4, .int (p4 + (5 : Int32))), (0, .ref b), (1, .ref (eAd E 0)), (2, .ref (eAd E 122)), (3, .ref (eAd E 149))]) X dL_law_1639 rfl (ii_ic ic_5) (by decide) rfl ?_
        refine ao_goto (pc := 1642) (tgt := 23) X dL_law_1642 (by decide) ?_
        refine ao_sub [1, 2, 3, 4, 0] rfl ?_
        refine ao_bump ?_
        exact hk (p4 + (5 : Int32)) m18
      · refine ao_iconst (pc := 301) X dL_law_301 ic_0 ?_
        exact ao_none
    refine ao_ite (cd := x1 = (3 : Int32)) (fun c => ao_tabIn (pc := 39) (k := (3 : Int32)) (tgt := 303) X dL_law_39 c (by decide) (by decide) rfl (by decide) ?_) (fun n20 => ?_)
    · refine ao_aload_n (pc := 303) X dL_law_303 rfl ?_
      refine ao_callVI (pc := 304) (As := []) (st := []) X hl0 dL_law_304 yv_X11_values so_0 ml_RL_41 (mX11_values_0 hI μ) (Nat.le_of_ble_eq_true rfl) rfl rfl (Nat.le_of_ble_eq_true rfl) (fun r21 m22 => ?_)
      refine ao_aload_n (pc := 307) X dL_law_307 rfl ?_
      refine ao_callVI (pc := 308) (As := []) (st := [.int r21]) X hl0 dL_law_308 yv_X12_values so_122 ml_RL_44 (mX12_values_122 hI m22) (Nat.le_of_ble_eq_true rfl) rfl rfl (Nat.le_of_ble_eq_true rfl) (fun r23 m24 => ?_)
      refine ao_icmp_eq (pc := 311) (tgt := 1639) X dL_law_311 (by decide) (fun _ => ?_) (fun _ => ?_)
      · refine ao_iinc (pc := 1639) (k := 4) (v := p4 + (5 : Int32)) (lv' := [(4, .int (p4 + (5 : Int32))), (0, .ref b), (1, .ref (eAd E 0)), (2, .ref (eAd E 122)), (3, .ref (eAd E 149))]) X dL_law_1639 rfl (ii_ic ic_5) (by decide) rfl ?_
        refine ao_goto (pc := 1642) (tgt := 23) X dL_law_1642 (by decide) ?_
        refine ao_sub [1, 2, 3, 4, 0] rfl ?_
        refine ao_bump ?_
        exact hk (p4 + (5 : Int32)) m24
      · refine ao_iconst (pc := 314) X dL_law_314 ic_0 ?_
        exact ao_none
    refine ao_ite (cd := x1 = (4 : Int32)) (fun c => ao_tabIn (pc := 39) (k := (4 : Int32)) (tgt := 316) X dL_law_39 c (by decide) (by decide) rfl (by decide) ?_) (fun n26 => ?_)
    · refine ao_aload_n (pc := 316) X dL_law_316 rfl ?_
      refine ao_callVI (pc := 317) (As := []) (st := []) X hl0 dL_law_317 yv_X11_witnesses so_0 ml_RL_45 (mX11_witnesses_0 hI μ) (Nat.le_of_ble_eq_true rfl) rfl rfl (Nat.le_of_ble_eq_true rfl) (fun r27 m28 => ?_)
      refine ao_aload_n (pc := 320) X dL_law_320 rfl ?_
      refine ao_callVI (pc := 321) (As := []) (st := [.int r27]) X hl0 dL_law_321 yv_X12_witnesses so_122 ml_RL_48 (mX12_witnesses_122 hI m28) (Nat.le_of_ble_eq_true rfl) rfl rfl (Nat.le_of_ble_eq_true rfl) (fun r29 m30 => ?_)
      refine ao_icmp_eq (pc := 324) (tgt := 1639) X dL_law_324 (by decide) (fun _ => ?_) (fun _ => ?_)
      · refine ao_iinc (pc := 1639) (k := 4) (v := p4 + (5 : Int32)) (lv' := [(4, .int (p4 + (5 : Int32))), (0, .ref b), (1, .ref (eAd E 0)), (2, .ref (eAd E 122)), (3, .ref (eAd E 149))]) X dL_law_1639 rfl (ii_ic ic_5) (by decide) rfl ?_
        refine ao_goto (pc := 1642) (tgt := 23) X dL_law_1642 (by decide) ?_
        refine ao_sub [1, 2, 3, 4, 0] rfl ?_
        refine ao_bump ?_
        exact hk (p4 + (5 : Int32)) m30
      · refine ao_iconst (pc := 327) X dL_law_327 ic_0 ?_
        exact ao_none
    refine ao_ite (cd := x1 = (5 : Int32)) (fun c => ao_tabIn (pc := 39) (k := (5 : Int32)) (tgt := 329) X dL_law_39 c (by decide) (by decide) rfl (by decide) ?_) (fun n32 => ?_)
    · refine ao_aload_n (pc := 329) X dL_law_329 rfl ?_
      refine ao_callVI (pc := 330) (As := []) (st := []) X hl0 dL_law_330 yv_X11_law so_0 ml_RL_49 (mX11_law_0 hI μ) (Nat.le_of_ble_eq_true rfl) rfl rfl (Nat.le_of_ble_eq_true rfl) (fun r33 m34 => ?_)
      refine ao_aload_n (pc := 333) X dL_law_333 rfl ?_
      refine ao_callVI (pc := 334) (As := []) (st := [.int r33]) X hl0 dL_law_334 yv_X12_law so_122 ml_RL_52 (mX12_law_122 hI m34) (Nat.le_of_ble_eq_true rfl) rfl rfl (Nat.le_of_ble_eq_true rfl) (fun r35 m36 => ?_)
      refine ao_icmp_eq (pc := 337) (tgt := 1639) X dL_law_337 (by decide) (fun _ => ?_) (fun _ => ?_)
      · refine ao_iinc (pc := 1639) (k := 4) (v := p4 + (5 : Int32)) (lv' := [(4, .int (p4 + (5 : Int32))), (0, .ref b), (1, .ref (eAd E 0)), (2, .ref (eAd E 122)), (3, .ref (eAd E 149))]) X dL_law_1639 rfl (ii_ic ic_5) (by decide) rfl ?_
        refine ao_goto (pc := 1642) (tgt := 23) X dL_law_1642 (by decide) ?_
        refine ao_sub [1, 2, 3, 4, 0] rfl ?_
        refine ao_bump ?_
        exact hk (p4 + (5 : Int32)) m36
      · refine ao_iconst (pc := 340) X dL_law_340 ic_0 ?_
        exact ao_none
    refine ao_ite (cd := x1 = (6 : Int32)) (fun c => ao_tabIn (pc := 39) (k := (6 : Int32)) (tgt := 342) X dL_law_39 c (by decide) (by decide) rfl (by decide) ?_) (fun n38 => ?_)
    · refine ao_aload_n (pc := 342) X dL_law_342 rfl ?_
      refine ao_callVI (pc := 343) (As := []) (st := []) X hl0 dL_law_343 yv_X11_rule so_0 ml_RL_53 (mX11_rule_0 hI μ) (Nat.le_of_ble_eq_true rfl) rfl rfl (Nat.le_of_ble_eq_true rfl) (fun r39 m40 => ?_)
      refine ao_aload_n (pc := 346) X dL_law_346 rfl ?_
      refine ao_callVI (pc := 347) (As := []) (st := [.int r39]) X hl0 dL_law_347 yv_X12_rule so_122 ml_RL_56 (mX12_rule_122 hI m40) (Nat.le_of_ble_eq_true rfl) rfl rfl (Nat.le_of_ble_eq_true rfl) (fun r41 m42 => ?_)
      refine ao_icmp_eq (pc := 350) (tgt := 1639) X dL_law_350 (by decide) (fun _ => ?_) (fun _ => ?_)
      · refine ao_iinc (pc := 1639) (k := 4) (v := p4 + (5 : Int32)) (lv' := [(4, .int (p4 + (5 : Int32))), (0, .ref b), (1, .ref (eAd E 0)), (2, .ref (eAd E 122)), (3, .ref (eAd E 149))]) X dL_law_1639 rfl (ii_ic ic_5) (by decide) rfl ?_
        refine ao_goto (pc := 1642) (tgt := 23) X dL_law_1642 (by decide) ?_
        refine ao_sub [1, 2, 3, 4, 0] rfl ?_
        refine ao_bump ?_
        exact hk (p4 + (5 : Int32)) m42
      · refine ao_iconst (pc := 353) X dL_law_353 ic_0 ?_
        exact ao_none
    refine ao_ite (cd := x1 = (7 : Int32)) (fun c => ao_tabIn (pc := 39) (k := (7 : Int32)) (tgt := 355) X dL_law_39 c (by decide) (by decide) rfl (by decide) ?_) (fun n44 => ?_)
    · refine ao_aload_n (pc := 355) X dL_law_355 rfl ?_
      refine ao_aload_n (pc := 356) X dL_law_356 rfl ?_
      refine ao_iload (pc := 357) X dL_law_357 rfl ?_
      refine ao_iconst (pc := 359) X dL_law_359 ic_1 ?_
      refine ao_iadd (pc := 360) X dL_law_360 ?_
      refine ao_bld (pc := 361) X hX dL_law_361 ?_
      refine ao_aload_n (pc := 362) X dL_law_362 rfl ?_
      refine ao_iload (pc := 363) X dL_law_363 rfl ?_
      refine ao_iconst (pc := 365) X dL_law_365 ic_2 ?_
      refine ao_iadd (pc := 366) X dL_law_366 ?_
      refine ao_bld (pc := 367) X hX dL_law_367 ?_
      refine ao_aload_n (pc := 368) X dL_law_368 rfl ?_
      refine ao_callH (pc := 369) (As := [.ref (eAd E 0), .int (xs (ix (p4 + (1 : Int32)))), .int (xs (ix (p4 + (2 : Int32)))), .ref (eAd E 149)]) (st := []) X hl0 hT hrm dL_law_369 yw_prisoner ml_RL_57 (kH_prisoner hI hst (xs (ix (p4 + (1 : Int32)))) (xs (ix (p4 + (2 : Int32)))) μ) (Nat.le_of_ble_eq_true rfl) rfl rfl (Nat.le_of_ble_eq_true rfl) (fun r45 m46 => ?_)
      have X := cx_bump X hrm
      have hl0 := lz_bump hl0
      have hX := zx_bump hX
      refine ao_istore (pc := 372) (lv' := [(5, .int r45), (0, .ref b), (1, .ref (eAd E 0)), (2, .ref (eAd E 122)), (3, .ref (eAd E 149)), (4, .int p4)]) X dL_law_372 (by decide) rfl ?_
      refine ao_aload_n (pc := 374) X dL_law_374 rfl ?_
      refine ao_aload_n (pc := 375) X dL_law_375 rfl ?_
      refine ao_iload (pc := 376) X dL_law_376 rfl ?_
      refine ao_iconst (pc := 378) X dL_law_378 ic_1 ?_
      refine ao_iadd (pc := 379) X dL_law_379 ?_
      refine ao_bld (pc := 380) X hX dL_law_380 ?_
      refine ao_aload_n (pc := 381) X dL_law_381 rfl ?_
      refine ao_iload (pc := 382) X dL_law_382 rfl ?_
      refine ao_iconst (pc := 384) X dL_law_384 ic_2 ?_
      refine ao_iadd (pc := 385) X dL_law_385 ?_
      refine ao_bld (pc := 386) X hX dL_law_386 ?_
      refine ao_callVI (pc := 387) (As := [.int (xs (ix (p4 + (1 : Int32)))), .int (xs (ix (p4 + (2 : Int32))))]) (st := []) X hl0 dL_law_387 yv_X12_prisoner so_122 ml_RL_62 (mX12_prisoner_122 hI (xs (ix (p4 + (1 : Int32)))) (xs (ix (p4 + (2 : Int32)))) m46) (Nat.le_of_ble_eq_true rfl) rfl rfl (Nat.le_of_ble_eq_true rfl) (fun r47 m48 => ?_)
      refine ao_istore (pc := 390) (lv' := [(6, .int r47), (5, .int r45), (0, .ref b), (1, .ref (eAd E 0)), (2, .ref (eAd E 122)), (3, .ref (eAd E 149)), (4, .int p4)]) X dL_law_390 (by decide) rfl ?_
      refine ao_aload_n (pc := 392) X dL_law_392 rfl ?_
      refine ao_callVI (pc := 393) (As := []) (st := []) X hl0 dL_law_393 yv_X12_thrown so_122 ml_RL_63 (mX12_thrown_122 hI m48) (Nat.le_of_ble_eq_true rfl) rfl rfl (Nat.le_of_ble_eq_true rfl) (fun r49 m50 => ?_)
      refine ao_iload (pc := 396) X dL_law_396 rfl ?_
      refine ao_icmp_eq (pc := 398) (tgt := 403) X dL_law_398 (by decide) (fun _ => ?_) (fun _ => ?_)
      · refine ao_iload (pc := 403) X dL_law_403 rfl ?_
        refine ao_if_ne (pc := 405) (tgt := 420) X dL_law_405 (by decide) (fun _ => ?_) (fun _ => ?_)
        · refine ao_goto (pc := 420) (tgt := 1639) X dL_law_420 (by decide) ?_
          refine ao_iinc (pc := 1639) (k := 6) (v := p4 + (5 : Int32)) (lv' := [(4, .int (p4 + (5 : Int32))), (6, .int r47), (5, .int r45), (0, .ref b), (1, .ref (eAd E 0)), (2, .ref (eAd E 122)), (3, .ref (eAd E 149))]) X dL_law_1639 rfl (ii_ic ic_5) (by decide) rfl ?_
          refine ao_goto (pc := 1642) (tgt := 23) X dL_law_1642 (by decide) ?_
          refine ao_sub [3, 4, 5, 6, 0] rfl ?_
          exact hk (p4 + (5 : Int32)) m50
        · refine ao_aload_n (pc := 408) X dL_law_408 rfl ?_
          refine ao_iconst (pc := 409) X dL_law_409 ic_0 ?_
          refine ao_lald (pc := 410) X dL_law_410 sa_149 ?_
          refine ao_iload (pc := 411) X dL_law_411 rfl ?_
          refine ao_i2l (pc := 413) X dL_law_413 ?_
          refine ao_lcmp (pc := 414) X dL_law_414 ?_
          refine ao_if_eq (pc := 415) (tgt := 420) X dL_law_415 (by decide) (fun _ => ?_) (fun _ => ?_)
          · refine ao_goto (pc := 420) (tgt := 1639) X dL_law_420 (by decide) ?_
            refine ao_iinc (pc := 1639) (k := 6) (v := p4 + (5 : Int32)) (lv' := [(4, .int (p4 + (5 : Int32))), (6, .int r47), (5, .int r45), (0, .ref b), (1, .ref (eAd E 0)), (2, .ref (eAd E 122)), (3, .ref (eAd E 149))]) X dL_law_1639 rfl (ii_ic ic_5) (by decide) rfl ?_
            refine ao_goto (pc := 1642) (tgt := 23) X dL_law_1642 (by decide) ?_
            refine ao_sub [3, 4, 5, 6, 0] rfl ?_
            exact hk (p4 + (5 : Int32)) m50
          · refine ao_iconst (pc := 418) X dL_law_418 ic_0 ?_
            exact ao_none
      · refine ao_iconst (pc := 401) X dL_law_401 ic_0 ?_
        exact ao_none
    refine ao_ite (cd := x1 = (8 : Int32)) (fun c => ao_tabIn (pc := 39) (k := (8 : Int32)) (tgt := 423) X dL_law_39 c (by decide) (by decide) rfl (by decide) ?_) (fun n53 => ?_)
    · refine ao_aload_n (pc := 423) X dL_law_423 rfl ?_
      refine ao_aload_n (pc := 424) X dL_law_424 rfl ?_
      refine ao_iload (pc := 425) X dL_law_425 rfl ?_
      refine ao_iconst (pc := 427) X dL_law_427 ic_1 ?_
      refine ao_iadd (pc := 428) X dL_law_428 ?_
      refine ao_bld (pc := 429) X hX dL_law_429 ?_
      refine ao_aload_n (pc := 430) X dL_law_430 rfl ?_
      refine ao_iload (pc := 431) X dL_law_431 rfl ?_
      refine ao_iconst (pc := 433) X dL_law_433 ic_2 ?_
      refine ao_iadd (pc := 434) X dL_law_434 ?_
      refine ao_bld (pc := 435) X hX dL_law_435 ?_
      refine ao_aload_n (pc := 436) X dL_law_436 rfl ?_
      refine ao_callH (pc := 437) (As := [.ref (eAd E 0), .int (xs (ix (p4 + (1 : Int32)))), .int (xs (ix (p4 + (2 : Int32)))), .ref (eAd E 149)]) (st := []) X hl0 hT hrm dL_law_437 yw_witness ml_RL_66 (kH_witness hI hst (xs (ix (p4 + (1 : Int32)))) (xs (ix (p4 + (2 : Int32)))) μ) (Nat.le_of_ble_eq_true rfl) rfl rfl (Nat.le_of_ble_eq_true rfl) (fun r54 m55 => ?_)
      have X := cx_bump X hrm
      have hl0 := lz_bump hl0
      have hX := zx_bump hX
      refine ao_istore (pc := 440) (lv' := [(5, .int r54), (0, .ref b), (1, .ref (eAd E 0)), (2, .ref (eAd E 122)), (3, .ref (eAd E 149)), (4, .int p4)]) X dL_law_440 (by decide) rfl ?_
      refine ao_aload_n (pc := 442) X dL_law_442 rfl ?_
      refine ao_aload_n (pc := 443) X dL_law_443 rfl ?_
      refine ao_iload (pc := 444) X dL_law_444 rfl ?_
      refine ao_iconst (pc := 446) X dL_law_446 ic_1 ?_
      refine ao_iadd (pc := 447) X dL_law_447 ?_
      refine ao_bld (pc := 448) X hX dL_law_448 ?_
      refine ao_aload_n (pc := 449) X dL_law_449 rfl ?_
      refine ao_iload (pc := 450) X dL_law_450 rfl ?_
      refine ao_iconst (pc := 452) X dL_law_452 ic_2 ?_
      refine ao_iadd (pc := 453) X dL_law_453 ?_
      refine ao_bld (pc := 454) X hX dL_law_454 ?_
      refine ao_callVI (pc := 455) (As := [.int (xs (ix (p4 + (1 : Int32)))), .int (xs (ix (p4 + (2 : Int32))))]) (st := []) X hl0 dL_law_455 yv_X12_witness so_122 ml_RL_68 (mX12_witness_122 hI (xs (ix (p4 + (1 : Int32)))) (xs (ix (p4 + (2 : Int32)))) m55) (Nat.le_of_ble_eq_true rfl) rfl rfl (Nat.le_of_ble_eq_true rfl) (fun r56 m57 => ?_)
      refine ao_istore (pc := 458) (lv' := [(6, .int r56), (5, .int r54), (0, .ref b), (1, .ref (eAd E 0)), (2, .ref (eAd E 122)), (3, .ref (eAd E 149)), (4, .int p4)]) X dL_law_458 (by decide) rfl ?_
      refine ao_aload_n (pc := 460) X dL_law_460 rfl ?_
      refine ao_callVI (pc := 461) (As := []) (st := []) X hl0 dL_law_461 yv_X12_thrown so_122 ml_RL_63 (mX12_thrown_122 hI m57) (Nat.le_of_ble_eq_true rfl) rfl rfl (Nat.le_of_ble_eq_true rfl) (fun r58 m59 => ?_)
      refine ao_iload (pc := 464) X dL_law_464 rfl ?_
      refine ao_icmp_eq (pc := 466) (tgt := 471) X dL_law_466 (by decide) (fun _ => ?_) (fun _ => ?_)
      · refine ao_iload (pc := 471) X dL_law_471 rfl ?_
        refine ao_if_ne (pc := 473) (tgt := 488) X dL_law_473 (by decide) (fun _ => ?_) (fun _ => ?_)
        · refine ao_goto (pc := 488) (tgt := 1639) X dL_law_488 (by decide) ?_
          refine ao_iinc (pc := 1639) (k := 6) (v := p4 + (5 : Int32)) (lv' := [(4, .int (p4 + (5 : Int32))), (6, .int r56), (5, .int r54), (0, .ref b), (1, .ref (eAd E 0)), (2, .ref (eAd E 122)), (3, .ref (eAd E 149))]) X dL_law_1639 rfl (ii_ic ic_5) (by decide) rfl ?_
          refine ao_goto (pc := 1642) (tgt := 23) X dL_law_1642 (by decide) ?_
          refine ao_sub [3, 4, 5, 6, 0] rfl ?_
          exact hk (p4 + (5 : Int32)) m59
        · refine ao_aload_n (pc := 476) X dL_law_476 rfl ?_
          refine ao_iconst (pc := 477) X dL_law_477 ic_0 ?_
          refine ao_lald (pc := 478) X dL_law_478 sa_149 ?_
          refine ao_iload (pc := 479) X dL_law_479 rfl ?_
          refine ao_i2l (pc := 481) X dL_law_481 ?_
          refine ao_lcmp (pc := 482) X dL_law_482 ?_
          refine ao_if_eq (pc := 483) (tgt := 488) X dL_law_483 (by decide) (fun _ => ?_) (fun _ => ?_)
          · refine ao_goto (pc := 488) (tgt := 1639) X dL_law_488 (by decide) ?_
            refine ao_iinc (pc := 1639) (k := 6) (v := p4 + (5 : Int32)) (lv' := [(4, .int (p4 + (5 : Int32))), (6, .int r56), (5, .int r54), (0, .ref b), (1, .ref (eAd E 0)), (2, .ref (eAd E 122)), (3, .ref (eAd E 149))]) X dL_law_1639 rfl (ii_ic ic_5) (by decide) rfl ?_
            refine ao_goto (pc := 1642) (tgt := 23) X dL_law_1642 (by decide) ?_
            refine ao_sub [3, 4, 5, 6, 0] rfl ?_
            exact hk (p4 + (5 : Int32)) m59
          · refine ao_iconst (pc := 486) X dL_law_486 ic_0 ?_
            exact ao_none
      · refine ao_iconst (pc := 469) X dL_law_469 ic_0 ?_
        exact ao_none
    refine ao_ite (cd := x1 = (9 : Int32)) (fun c => ao_tabIn (pc := 39) (k := (9 : Int32)) (tgt := 491) X dL_law_39 c (by decide) (by decide) rfl (by decide) ?_) (fun n62 => ?_)
    · refine ao_aload_n (pc := 491) X dL_law_491 rfl ?_
      refine ao_aload_n (pc := 492) X dL_law_492 rfl ?_
      refine ao_iload (pc := 493) X dL_law_493 rfl ?_
      refine ao_iconst (pc := 495) X dL_law_495 ic_1 ?_
      refine ao_iadd (pc := 496) X dL_law_496 ?_
      refine ao_bld (pc := 497) X hX dL_law_497 ?_
      refine ao_callVI (pc := 498) (As := [.int (xs (ix (p4 + (1 : Int32))))]) (st := []) X hl0 dL_law_498 yv_X11_ends so_0 ml_RL_69 (mX11_ends_0 hI (xs (ix (p4 + (1 : Int32)))) μ) (Nat.le_of_ble_eq_true rfl) rfl rfl (Nat.le_of_ble_eq_true rfl) (fun r63 m64 => ?_)
      refine ao_aload_n (pc := 501) X dL_law_501 rfl ?_
      refine ao_aload_n (pc := 502) X dL_law_502 rfl ?_
      refine ao_iload (pc := 503) X dL_law_503 rfl ?_
      refine ao_iconst (pc := 505) X dL_law_505 ic_1 ?_
      refine ao_iadd (pc := 506) X dL_law_506 ?_
      refine ao_bld (pc := 507) X hX dL_law_507 ?_
      refine ao_callVI (pc := 508) (As := [.int (xs (ix (p4 + (1 : Int32))))]) (st := [.int r63]) X hl0 dL_law_508 yv_X12_ends so_122 ml_RL_72 (mX12_ends_122 hI (xs (ix (p4 + (1 : Int32)))) m64) (Nat.le_of_ble_eq_true rfl) rfl rfl (Nat.le_of_ble_eq_true rfl) (fun r65 m66 => ?_)
      refine ao_icmp_eq (pc := 511) (tgt := 1639) X dL_law_511 (by decide) (fun _ => ?_) (fun _ => ?_)
      · refine ao_iinc (pc := 1639) (k := 4) (v := p4 + (5 : Int32)) (lv' := [(4, .int (p4 + (5 : Int32))), (0, .ref b), (1, .ref (eAd E 0)), (2, .ref (eAd E 122)), (3, .ref (eAd E 149))]) X dL_law_1639 rfl (ii_ic ic_5) (by decide) rfl ?_
        refine ao_goto (pc := 1642) (tgt := 23) X dL_law_1642 (by decide) ?_
        refine ao_sub [1, 2, 3, 4, 0] rfl ?_
        refine ao_bump ?_
        exact hk (p4 + (5 : Int32)) m66
      · refine ao_iconst (pc := 514) X dL_law_514 ic_0 ?_
        exact ao_none
    refine ao_ite (cd := x1 = (10 : Int32)) (fun c => ao_tabIn (pc := 39) (k := (10 : Int32)) (tgt := 516) X dL_law_39 c (by decide) (by decide) rfl (by decide) ?_) (fun n68 => ?_)
    · refine ao_aload_n (pc := 516) X dL_law_516 rfl ?_
      refine ao_aload_n (pc := 517) X dL_law_517 rfl ?_
      refine ao_iload (pc := 518) X dL_law_518 rfl ?_
      refine ao_iconst (pc := 520) X dL_law_520 ic_1 ?_
      refine ao_iadd (pc := 521) X dL_law_521 ?_
      refine ao_bld (pc := 522) X hX dL_law_522 ?_
      refine ao_aload_n (pc := 523) X dL_law_523 rfl ?_
      refine ao_iload (pc := 524) X dL_law_524 rfl ?_
      refine ao_iconst (pc := 526) X dL_law_526 ic_2 ?_
      refine ao_iadd (pc := 527) X dL_law_527 ?_
      refine ao_bld (pc := 528) X hX dL_law_528 ?_
      refine ao_aload_n (pc := 529) X dL_law_529 rfl ?_
      refine ao_iload (pc := 530) X dL_law_530 rfl ?_
      refine ao_iconst (pc := 532) X dL_law_532 ic_3 ?_
      refine ao_iadd (pc := 533) X dL_law_533 ?_
      refine ao_bld (pc := 534) X hX dL_law_534 ?_
      refine ao_aload_n (pc := 535) X dL_law_535 rfl ?_
      refine ao_iload (pc := 536) X dL_law_536 rfl ?_
      refine ao_iconst (pc := 538) X dL_law_538 ic_4 ?_
      refine ao_iadd (pc := 539) X dL_law_539 ?_
      refine ao_bld (pc := 540) X hX dL_law_540 ?_
      refine ao_callVI (pc := 541) (As := [.int (xs (ix (p4 + (1 : Int32)))), .int (xs (ix (p4 + (2 : Int32)))), .int (xs (ix (p4 + (3 : Int32)))), .int (xs (ix (p4 + (4 : Int32))))]) (st := []) X hl0 dL_law_541 yv_X11_sheet so_0 ml_RL_73 (mX11_sheet_0 hI (xs (ix (p4 + (1 : Int32)))) (xs (ix (p4 + (2 : Int32)))) (xs (ix (p4 + (3 : Int32)))) (xs (ix (p4 + (4 : Int32)))) μ) (Nat.le_of_ble_eq_true rfl) rfl rfl (Nat.le_of_ble_eq_true rfl) (fun r69 m70 => ?_)
      refine ao_aload_n (pc := 544) X dL_law_544 rfl ?_
      refine ao_aload_n (pc := 545) X dL_law_545 rfl ?_
      refine ao_iload (pc := 546) X dL_law_546 rfl ?_
      refine ao_iconst (pc := 548) X dL_law_548 ic_1 ?_
      refine ao_iadd (pc := 549) X dL_law_549 ?_
      refine ao_bld (pc := 550) X hX dL_law_550 ?_
      refine ao_aload_n (pc := 551) X dL_law_551 rfl ?_
      refine ao_iload (pc := 552) X dL_law_552 rfl ?_
      refine ao_iconst (pc := 554) X dL_law_554 ic_2 ?_
      refine ao_iadd (pc := 555) X dL_law_555 ?_
      refine ao_bld (pc := 556) X hX dL_law_556 ?_
      refine ao_aload_n (pc := 557) X dL_law_557 rfl ?_
      refine ao_iload (pc := 558) X dL_law_558 rfl ?_
      refine ao_iconst (pc := 560) X dL_law_560 ic_3 ?_
      refine ao_iadd (pc := 561) X dL_law_561 ?_
      refine ao_bld (pc := 562) X hX dL_law_562 ?_
      refine ao_aload_n (pc := 563) X dL_law_563 rfl ?_
      refine ao_iload (pc := 564) X dL_law_564 rfl ?_
      refine ao_iconst (pc := 566) X dL_law_566 ic_4 ?_
      refine ao_iadd (pc := 567) X dL_law_567 ?_
      refine ao_bld (pc := 568) X hX dL_law_568 ?_
      refine ao_callVI (pc := 569) (As := [.int (xs (ix (p4 + (1 : Int32)))), .int (xs (ix (p4 + (2 : Int32)))), .int (xs (ix (p4 + (3 : Int32)))), .int (xs (ix (p4 + (4 : Int32))))]) (st := [.int r69]) X hl0 dL_law_569 yv_X12_sheet so_122 ml_RL_77 (mX12_sheet_122 hI (xs (ix (p4 + (1 : Int32)))) (xs (ix (p4 + (2 : Int32)))) (xs (ix (p4 + (3 : Int32)))) (xs (ix (p4 + (4 : Int32)))) m70) (Nat.le_of_ble_eq_true rfl) rfl rfl (Nat.le_of_ble_eq_true rfl) (fun r71 m72 => ?_)
      refine ao_icmp_eq (pc := 572) (tgt := 1639) X dL_law_572 (by decide) (fun _ => ?_) (fun _ => ?_)
      · refine ao_iinc (pc := 1639) (k := 4) (v := p4 + (5 : Int32)) (lv' := [(4, .int (p4 + (5 : Int32))), (0, .ref b), (1, .ref (eAd E 0)), (2, .ref (eAd E 122)), (3, .ref (eAd E 149))]) X dL_law_1639 rfl (ii_ic ic_5) (by decide) rfl ?_
        refine ao_goto (pc := 1642) (tgt := 23) X dL_law_1642 (by decide) ?_
        refine ao_sub [1, 2, 3, 4, 0] rfl ?_
        refine ao_bump ?_
        exact hk (p4 + (5 : Int32)) m72
      · refine ao_iconst (pc := 575) X dL_law_575 ic_0 ?_
        exact ao_none
    refine ao_ite (cd := x1 = (11 : Int32)) (fun c => ao_tabIn (pc := 39) (k := (11 : Int32)) (tgt := 577) X dL_law_39 c (by decide) (by decide) rfl (by decide) ?_) (fun n74 => ?_)
    · refine ao_aload_n (pc := 577) X dL_law_577 rfl ?_
      refine ao_aload_n (pc := 578) X dL_law_578 rfl ?_
      refine ao_iload (pc := 579) X dL_law_579 rfl ?_
      refine ao_iconst (pc := 581) X dL_law_581 ic_1 ?_
      refine ao_iadd (pc := 582) X dL_law_582 ?_
      refine ao_bld (pc := 583) X hX dL_law_583 ?_
      refine ao_aload_n (pc := 584) X dL_law_584 rfl ?_
      refine ao_iload (pc := 585) X dL_law_585 rfl ?_
      refine ao_iconst (pc := 587) X dL_law_587 ic_2 ?_
      refine ao_iadd (pc := 588) X dL_law_588 ?_
      refine ao_bld (pc := 589) X hX dL_law_589 ?_
      refine ao_callVI (pc := 590) (As := [.int (xs (ix (p4 + (1 : Int32)))), .int (xs (ix (p4 + (2 : Int32))))]) (st := []) X hl0 dL_law_590 yv_X11_lay so_0 ml_RL_78 (mX11_lay_0 hI (xs (ix (p4 + (1 : Int32)))) (xs (ix (p4 + (2 : Int32)))) μ) (Nat.le_of_ble_eq_true rfl) rfl rfl (Nat.le_of_ble_eq_true rfl) (fun r75 m76 => ?_)
      refine ao_aload_n (pc := 593) X dL_law_593 rfl ?_
      refine ao_aload_n (pc := 594) X dL_law_594 rfl ?_
      refine ao_iload (pc := 595) X dL_law_595 rfl ?_
      refine ao_iconst (pc := 597) X dL_law_597 ic_1 ?_
      refine ao_iadd (pc := 598) X dL_law_598 ?_
      refine ao_bld (pc := 599) X hX dL_law_599 ?_
      refine ao_aload_n (pc := 600) X dL_law_600 rfl ?_
      refine ao_iload (pc := 601) X dL_law_601 rfl ?_
      refine ao_iconst (pc := 603) X dL_law_603 ic_2 ?_
      refine ao_iadd (pc := 604) X dL_law_604 ?_
      refine ao_bld (pc := 605) X hX dL_law_605 ?_
      refine ao_callVI (pc := 606) (As := [.int (xs (ix (p4 + (1 : Int32)))), .int (xs (ix (p4 + (2 : Int32))))]) (st := [.int r75]) X hl0 dL_law_606 yv_X12_lay_ so_122 ml_RL_81 (mX12_lay__122 hI (xs (ix (p4 + (1 : Int32)))) (xs (ix (p4 + (2 : Int32)))) m76) (Nat.le_of_ble_eq_true rfl) rfl rfl (Nat.le_of_ble_eq_true rfl) (fun r77 m78 => ?_)
      refine ao_icmp_eq (pc := 609) (tgt := 1639) X dL_law_609 (by decide) (fun _ => ?_) (fun _ => ?_)
      · refine ao_iinc (pc := 1639) (k := 4) (v := p4 + (5 : Int32)) (lv' := [(4, .int (p4 + (5 : Int32))), (0, .ref b), (1, .ref (eAd E 0)), (2, .ref (eAd E 122)), (3, .ref (eAd E 149))]) X dL_law_1639 rfl (ii_ic ic_5) (by decide) rfl ?_
        refine ao_goto (pc := 1642) (tgt := 23) X dL_law_1642 (by decide) ?_
        refine ao_sub [1, 2, 3, 4, 0] rfl ?_
        refine ao_bump ?_
        exact hk (p4 + (5 : Int32)) m78
      · refine ao_iconst (pc := 612) X dL_law_612 ic_0 ?_
        exact ao_none
    refine ao_ite (cd := x1 = (12 : Int32)) (fun c => ao_tabIn (pc := 39) (k := (12 : Int32)) (tgt := 614) X dL_law_39 c (by decide) (by decide) rfl (by decide) ?_) (fun n80 => ?_)
    · refine ao_aload_n (pc := 614) X dL_law_614 rfl ?_
      refine ao_aload_n (pc := 615) X dL_law_615 rfl ?_
      refine ao_iload (pc := 616) X dL_law_616 rfl ?_
      refine ao_iconst (pc := 618) X dL_law_618 ic_1 ?_
      refine ao_iadd (pc := 619) X dL_law_619 ?_
      refine ao_bld (pc := 620) X hX dL_law_620 ?_
      refine ao_callVI (pc := 621) (As := [.int (xs (ix (p4 + (1 : Int32))))]) (st := []) X hl0 dL_law_621 yv_X11_ask so_0 ml_RL_82 (mX11_ask_0 hI (xs (ix (p4 + (1 : Int32)))) μ) (Nat.le_of_ble_eq_true rfl) rfl rfl (Nat.le_of_ble_eq_true rfl) (fun r81 m82 => ?_)
      refine ao_aload_n (pc := 624) X dL_law_624 rfl ?_
      refine ao_aload_n (pc := 625) X dL_law_625 rfl ?_
      refine ao_iload (pc := 626) X dL_law_626 rfl ?_
      refine ao_iconst (pc := 628) X dL_law_628 ic_1 ?_
      refine ao_iadd (pc := 629) X dL_law_629 ?_
      refine ao_bld (pc := 630) X hX dL_law_630 ?_
      refine ao_callVI (pc := 631) (As := [.int (xs (ix (p4 + (1 : Int32))))]) (st := [.int r81]) X hl0 dL_law_631 yv_X12_ask so_122 ml_RL_85 (mX12_ask_122 hI (xs (ix (p4 + (1 : Int32)))) m82) (Nat.le_of_ble_eq_true rfl) rfl rfl (Nat.le_of_ble_eq_true rfl) (fun r83 m84 => ?_)
      refine ao_icmp_eq (pc := 634) (tgt := 1639) X dL_law_634 (by decide) (fun _ => ?_) (fun _ => ?_)
      · refine ao_iinc (pc := 1639) (k := 4) (v := p4 + (5 : Int32)) (lv' := [(4, .int (p4 + (5 : Int32))), (0, .ref b), (1, .ref (eAd E 0)), (2, .ref (eAd E 122)), (3, .ref (eAd E 149))]) X dL_law_1639 rfl (ii_ic ic_5) (by decide) rfl ?_
        refine ao_goto (pc := 1642) (tgt := 23) X dL_law_1642 (by decide) ?_
        refine ao_sub [1, 2, 3, 4, 0] rfl ?_
        refine ao_bump ?_
        exact hk (p4 + (5 : Int32)) m84
      · refine ao_iconst (pc := 637) X dL_law_637 ic_0 ?_
        exact ao_none
    refine ao_ite (cd := x1 = (13 : Int32)) (fun c => ao_tabIn (pc := 39) (k := (13 : Int32)) (tgt := 639) X dL_law_39 c (by decide) (by decide) rfl (by decide) ?_) (fun n86 => ?_)
    · refine ao_aload_n (pc := 639) X dL_law_639 rfl ?_
      refine ao_aload_n (pc := 640) X dL_law_640 rfl ?_
      refine ao_iload (pc := 641) X dL_law_641 rfl ?_
      refine ao_iconst (pc := 643) X dL_law_643 ic_1 ?_
      refine ao_iadd (pc := 644) X dL_law_644 ?_
      refine ao_bld (pc := 645) X hX dL_law_645 ?_
      refine ao_callVI (pc := 646) (As := [.int (xs (ix (p4 + (1 : Int32))))]) (st := []) X hl0 dL_law_646 yv_X11_judge so_0 ml_RL_86 (mX11_judge_0 hI (xs (ix (p4 + (1 : Int32)))) μ) (Nat.le_of_ble_eq_true rfl) rfl rfl (Nat.le_of_ble_eq_true rfl) (fun r87 m88 => ?_)
      refine ao_aload_n (pc := 649) X dL_law_649 rfl ?_
      refine ao_aload_n (pc := 650) X dL_law_650 rfl ?_
      refine ao_iload (pc := 651) X dL_law_651 rfl ?_
      refine ao_iconst (pc := 653) X dL_law_653 ic_1 ?_
      refine ao_iadd (pc := 654) X dL_law_654 ?_
      refine ao_bld (pc := 655) X hX dL_law_655 ?_
      refine ao_callVI (pc := 656) (As := [.int (xs (ix (p4 + (1 : Int32))))]) (st := [.int r87]) X hl0 dL_law_656 yv_X12_judge so_122 ml_RL_89 (mX12_judge_122 hI (xs (ix (p4 + (1 : Int32)))) m88) (Nat.le_of_ble_eq_true rfl) rfl rfl (Nat.le_of_ble_eq_true rfl) (fun r89 m90 => ?_)
      refine ao_icmp_eq (pc := 659) (tgt := 1639) X dL_law_659 (by decide) (fun _ => ?_) (fun _ => ?_)
      · refine ao_iinc (pc := 1639) (k := 4) (v := p4 + (5 : Int32)) (lv' := [(4, .int (p4 + (5 : Int32))), (0, .ref b), (1, .ref (eAd E 0)), (2, .ref (eAd E 122)), (3, .ref (eAd E 149))]) X dL_law_1639 rfl (ii_ic ic_5) (by decide) rfl ?_
        refine ao_goto (pc := 1642) (tgt := 23) X dL_law_1642 (by decide) ?_
        refine ao_sub [1, 2, 3, 4, 0] rfl ?_
        refine ao_bump ?_
        exact hk (p4 + (5 : Int32)) m90
      · refine ao_iconst (pc := 662) X dL_law_662 ic_0 ?_
        exact ao_none
    refine ao_ite (cd := x1 = (14 : Int32)) (fun c => ao_tabIn (pc := 39) (k := (14 : Int32)) (tgt := 664) X dL_law_39 c (by decide) (by decide) rfl (by decide) ?_) (fun n92 => ?_)
    · refine ao_aload_n (pc := 664) X dL_law_664 rfl ?_
      refine ao_aload_n (pc := 665) X dL_law_665 rfl ?_
      refine ao_iload (pc := 666) X dL_law_666 rfl ?_
      refine ao_iconst (pc := 668) X dL_law_668 ic_1 ?_
      refine ao_iadd (pc := 669) X dL_law_669 ?_
      refine ao_bld (pc := 670) X hX dL_law_670 ?_
      refine ao_callVI (pc := 671) (As := [.int (xs (ix (p4 + (1 : Int32))))]) (st := []) X hl0 dL_law_671 yv_X11_nights so_0 ml_RL_90 (mX11_nights_0 hI (xs (ix (p4 + (1 : Int32)))) μ) (Nat.le_of_ble_eq_true rfl) rfl rfl (Nat.le_of_ble_eq_true rfl) (fun r93 m94 => ?_)
      refine ao_aload_n (pc := 674) X dL_law_674 rfl ?_
      refine ao_aload_n (pc := 675) X dL_law_675 rfl ?_
      refine ao_iload (pc := 676) X dL_law_676 rfl ?_
      refine ao_iconst (pc := 678) X dL_law_678 ic_1 ?_
      refine ao_iadd (pc := 679) X dL_law_679 ?_
      refine ao_bld (pc := 680) X hX dL_law_680 ?_
      refine ao_callVI (pc := 681) (As := [.int (xs (ix (p4 + (1 : Int32))))]) (st := [.int r93]) X hl0 dL_law_681 yv_X12_nights so_122 ml_RL_93 (mX12_nights_122 hI (xs (ix (p4 + (1 : Int32)))) m94) (Nat.le_of_ble_eq_true rfl) rfl rfl (Nat.le_of_ble_eq_true rfl) (fun r95 m96 => ?_)
      refine ao_icmp_eq (pc := 684) (tgt := 1639) X dL_law_684 (by decide) (fun _ => ?_) (fun _ => ?_)
      · refine ao_iinc (pc := 1639) (k := 4) (v := p4 + (5 : Int32)) (lv' := [(4, .int (p4 + (5 : Int32))), (0, .ref b), (1, .ref (eAd E 0)), (2, .ref (eAd E 122)), (3, .ref (eAd E 149))]) X dL_law_1639 rfl (ii_ic ic_5) (by decide) rfl ?_
        refine ao_goto (pc := 1642) (tgt := 23) X dL_law_1642 (by decide) ?_
        refine ao_sub [1, 2, 3, 4, 0] rfl ?_
        refine ao_bump ?_
        exact hk (p4 + (5 : Int32)) m96
      · refine ao_iconst (pc := 687) X dL_law_687 ic_0 ?_
        exact ao_none
    refine ao_ite (cd := x1 = (15 : Int32)) (fun c => ao_tabIn (pc := 39) (k := (15 : Int32)) (tgt := 689) X dL_law_39 c (by decide) (by decide) rfl (by decide) ?_) (fun n98 => ?_)
    · refine ao_aload_n (pc := 689) X dL_law_689 rfl ?_
      refine ao_callVI (pc := 690) (As := []) (st := []) X hl0 dL_law_690 yv_X11_assize so_0 ml_RL_94 (mX11_assize_0 hI μ) (Nat.le_of_ble_eq_true rfl) rfl rfl (Nat.le_of_ble_eq_true rfl) (fun r99 m100 => ?_)
      refine ao_aload_n (pc := 693) X dL_law_693 rfl ?_
      refine ao_callVI (pc := 694) (As := []) (st := [.int r99]) X hl0 dL_law_694 yv_X12_assize so_122 ml_RL_97 (mX12_assize_122 hI m100) (Nat.le_of_ble_eq_true rfl) rfl rfl (Nat.le_of_ble_eq_true rfl) (fun r101 m102 => ?_)
      refine ao_icmp_eq (pc := 697) (tgt := 1639) X dL_law_697 (by decide) (fun _ => ?_) (fun _ => ?_)
      · refine ao_iinc (pc := 1639) (k := 4) (v := p4 + (5 : Int32)) (lv' := [(4, .int (p4 + (5 : Int32))), (0, .ref b), (1, .ref (eAd E 0)), (2, .ref (eAd E 122)), (3, .ref (eAd E 149))]) X dL_law_1639 rfl (ii_ic ic_5) (by decide) rfl ?_
        refine ao_goto (pc := 1642) (tgt := 23) X dL_law_1642 (by decide) ?_
        refine ao_sub [1, 2, 3, 4, 0] rfl ?_
        refine ao_bump ?_
        exact hk (p4 + (5 : Int32)) m102
      · refine ao_iconst (pc := 700) X dL_law_700 ic_0 ?_
        exact ao_none
    refine ao_ite (cd := x1 = (16 : Int32)) (fun c => ao_tabIn (pc := 39) (k := (16 : Int32)) (tgt := 702) X dL_law_39 c (by decide) (by decide) rfl (by decide) ?_) (fun n104 => ?_)
    · refine ao_aload_n (pc := 702) X dL_law_702 rfl ?_
      refine ao_callVI (pc := 703) (As := []) (st := []) X hl0 dL_law_703 yv_X11_undo so_0 ml_RL_98 (mX11_undo_0 hI μ) (Nat.le_of_ble_eq_true rfl) rfl rfl (Nat.le_of_ble_eq_true rfl) (fun r105 m106 => ?_)
      refine ao_aload_n (pc := 706) X dL_law_706 rfl ?_
      refine ao_callVI (pc := 707) (As := []) (st := [.int r105]) X hl0 dL_law_707 yv_X12_undo so_122 ml_RL_101 (mX12_undo_122 hI m106) (Nat.le_of_ble_eq_true rfl) rfl rfl (Nat.le_of_ble_eq_true rfl) (fun r107 m108 => ?_)
      refine ao_icmp_eq (pc := 710) (tgt := 1639) X dL_law_710 (by decide) (fun _ => ?_) (fun _ => ?_)
      · refine ao_iinc (pc := 1639) (k := 4) (v := p4 + (5 : Int32)) (lv' := [(4, .int (p4 + (5 : Int32))), (0, .ref b), (1, .ref (eAd E 0)), (2, .ref (eAd E 122)), (3, .ref (eAd E 149))]) X dL_law_1639 rfl (ii_ic ic_5) (by decide) rfl ?_
        refine ao_goto (pc := 1642) (tgt := 23) X dL_law_1642 (by decide) ?_
        refine ao_sub [1, 2, 3, 4, 0] rfl ?_
        refine ao_bump ?_
        exact hk (p4 + (5 : Int32)) m108
      · refine ao_iconst (pc := 713) X dL_law_713 ic_0 ?_
        exact ao_none
    refine ao_ite (cd := x1 = (17 : Int32)) (fun c => ao_tabIn (pc := 39) (k := (17 : Int32)) (tgt := 715) X dL_law_39 c (by decide) (by decide) rfl (by decide) ?_) (fun n110 => ?_)
    · refine ao_aload_n (pc := 715) X dL_law_715 rfl ?_
      refine ao_aload_n (pc := 716) X dL_law_716 rfl ?_
      refine ao_iload (pc := 717) X dL_law_717 rfl ?_
      refine ao_iconst (pc := 719) X dL_law_719 ic_1 ?_
      refine ao_iadd (pc := 720) X dL_law_720 ?_
      refine ao_bld (pc := 721) X hX dL_law_721 ?_
      refine ao_aload_n (pc := 722) X dL_law_722 rfl ?_
      refine ao_iload (pc := 723) X dL_law_723 rfl ?_
      refine ao_iconst (pc := 725) X dL_law_725 ic_2 ?_
      refine ao_iadd (pc := 726) X dL_law_726 ?_
      refine ao_bld (pc := 727) X hX dL_law_727 ?_
      refine ao_callVI (pc := 728) (As := [.int (xs (ix (p4 + (1 : Int32)))), .int (xs (ix (p4 + (2 : Int32))))]) (st := []) X hl0 dL_law_728 yv_X11_left so_0 ml_RL_102 (mX11_left_0 hI (xs (ix (p4 + (1 : Int32)))) (xs (ix (p4 + (2 : Int32)))) μ) (Nat.le_of_ble_eq_true rfl) rfl rfl (Nat.le_of_ble_eq_true rfl) (fun r111 m112 => ?_)
      refine ao_aload_n (pc := 731) X dL_law_731 rfl ?_
      refine ao_aload_n (pc := 732) X dL_law_732 rfl ?_
      refine ao_iload (pc := 733) X dL_law_733 rfl ?_
      refine ao_iconst (pc := 735) X dL_law_735 ic_1 ?_
      refine ao_iadd (pc := 736) X dL_law_736 ?_
      refine ao_bld (pc := 737) X hX dL_law_737 ?_
      refine ao_aload_n (pc := 738) X dL_law_738 rfl ?_
      refine ao_iload (pc := 739) X dL_law_739 rfl ?_
      refine ao_iconst (pc := 741) X dL_law_741 ic_2 ?_
      refine ao_iadd (pc := 742) X dL_law_742 ?_
      refine ao_bld (pc := 743) X hX dL_law_743 ?_
      refine ao_callVI (pc := 744) (As := [.int (xs (ix (p4 + (1 : Int32)))), .int (xs (ix (p4 + (2 : Int32))))]) (st := [.int r111]) X hl0 dL_law_744 yv_X12_left so_122 ml_RL_105 (mX12_left_122 hI (xs (ix (p4 + (1 : Int32)))) (xs (ix (p4 + (2 : Int32)))) m112) (Nat.le_of_ble_eq_true rfl) rfl rfl (Nat.le_of_ble_eq_true rfl) (fun r113 m114 => ?_)
      refine ao_icmp_eq (pc := 747) (tgt := 1639) X dL_law_747 (by decide) (fun _ => ?_) (fun _ => ?_)
      · refine ao_iinc (pc := 1639) (k := 4) (v := p4 + (5 : Int32)) (lv' := [(4, .int (p4 + (5 : Int32))), (0, .ref b), (1, .ref (eAd E 0)), (2, .ref (eAd E 122)), (3, .ref (eAd E 149))]) X dL_law_1639 rfl (ii_ic ic_5) (by decide) rfl ?_
        refine ao_goto (pc := 1642) (tgt := 23) X dL_law_1642 (by decide) ?_
        refine ao_sub [1, 2, 3, 4, 0] rfl ?_
        refine ao_bump ?_
        exact hk (p4 + (5 : Int32)) m114
      · refine ao_iconst (pc := 750) X dL_law_750 ic_0 ?_
        exact ao_none
    refine ao_ite (cd := x1 = (18 : Int32)) (fun c => ao_tabIn (pc := 39) (k := (18 : Int32)) (tgt := 752) X dL_law_39 c (by decide) (by decide) rfl (by decide) ?_) (fun n116 => ?_)
    · refine ao_aload_n (pc := 752) X dL_law_752 rfl ?_
      refine ao_aload_n (pc := 753) X dL_law_753 rfl ?_
      refine ao_iload (pc := 754) X dL_law_754 rfl ?_
      refine ao_iconst (pc := 756) X dL_law_756 ic_1 ?_
      refine ao_iadd (pc := 757) X dL_law_757 ?_
      refine ao_bld (pc := 758) X hX dL_law_758 ?_
      refine ao_callVI (pc := 759) (As := [.int (xs (ix (p4 + (1 : Int32))))]) (st := []) X hl0 dL_law_759 yv_X11_dies so_0 ml_RL_106 (mX11_dies_0 hI (xs (ix (p4 + (1 : Int32)))) μ) (Nat.le_of_ble_eq_true rfl) rfl rfl (Nat.le_of_ble_eq_true rfl) (fun r117 m118 => ?_)
      refine ao_aload_n (pc := 762) X dL_law_762 rfl ?_
      refine ao_aload_n (pc := 763) X dL_law_763 rfl ?_
      refine ao_iload (pc := 764) X dL_law_764 rfl ?_
      refine ao_iconst (pc := 766) X dL_law_766 ic_1 ?_
      refine ao_iadd (pc := 767) X dL_law_767 ?_
      refine ao_bld (pc := 768) X hX dL_law_768 ?_
      refine ao_callVI (pc := 769) (As := [.int (xs (ix (p4 + (1 : Int32))))]) (st := [.int r117]) X hl0 dL_law_769 yv_X12_dies so_122 ml_RL_109 (mX12_dies_122 hI (xs (ix (p4 + (1 : Int32)))) m118) (Nat.le_of_ble_eq_true rfl) rfl rfl (Nat.le_of_ble_eq_true rfl) (fun r119 m120 => ?_)
      refine ao_icmp_eq (pc := 772) (tgt := 1639) X dL_law_772 (by decide) (fun _ => ?_) (fun _ => ?_)
      · refine ao_iinc (pc := 1639) (k := 4) (v := p4 + (5 : Int32)) (lv' := [(4, .int (p4 + (5 : Int32))), (0, .ref b), (1, .ref (eAd E 0)), (2, .ref (eAd E 122)), (3, .ref (eAd E 149))]) X dL_law_1639 rfl (ii_ic ic_5) (by decide) rfl ?_
        refine ao_goto (pc := 1642) (tgt := 23) X dL_law_1642 (by decide) ?_
        refine ao_sub [1, 2, 3, 4, 0] rfl ?_
        refine ao_bump ?_
        exact hk (p4 + (5 : Int32)) m120
      · refine ao_iconst (pc := 775) X dL_law_775 ic_0 ?_
        exact ao_none
    refine ao_ite (cd := x1 = (19 : Int32)) (fun c => ao_tabIn (pc := 39) (k := (19 : Int32)) (tgt := 777) X dL_law_39 c (by decide) (by decide) rfl (by decide) ?_) (fun n122 => ?_)
    · refine ao_aload_n (pc := 777) X dL_law_777 rfl ?_
      refine ao_aload_n (pc := 778) X dL_law_778 rfl ?_
      refine ao_iload (pc := 779) X dL_law_779 rfl ?_
      refine ao_iconst (pc := 781) X dL_law_781 ic_1 ?_
      refine ao_iadd (pc := 782) X dL_law_782 ?_
      refine ao_bld (pc := 783) X hX dL_law_783 ?_
      refine ao_aload_n (pc := 784) X dL_law_784 rfl ?_
      refine ao_iload (pc := 785) X dL_law_785 rfl ?_
      refine ao_iconst (pc := 787) X dL_law_787 ic_2 ?_
      refine ao_iadd (pc := 788) X dL_law_788 ?_
      refine ao_bld (pc := 789) X hX dL_law_789 ?_
      refine ao_callVI (pc := 790) (As := [.int (xs (ix (p4 + (1 : Int32)))), .int (xs (ix (p4 + (2 : Int32))))]) (st := []) X hl0 dL_law_790 yv_X11_speaks so_0 ml_RL_110 (mX11_speaks_0 hI (xs (ix (p4 + (1 : Int32)))) (xs (ix (p4 + (2 : Int32)))) μ) (Nat.le_of_ble_eq_true rfl) rfl rfl (Nat.le_of_ble_eq_true rfl) (fun r123 m124 => ?_)
      refine ao_aload_n (pc := 793) X dL_law_793 rfl ?_
      refine ao_aload_n (pc := 794) X dL_law_794 rfl ?_
      refine ao_iload (pc := 795) X dL_law_795 rfl ?_
      refine ao_iconst (pc := 797) X dL_law_797 ic_1 ?_
      refine ao_iadd (pc := 798) X dL_law_798 ?_
      refine ao_bld (pc := 799) X hX dL_law_799 ?_
      refine ao_aload_n (pc := 800) X dL_law_800 rfl ?_
      refine ao_iload (pc := 801) X dL_law_801 rfl ?_
      refine ao_iconst (pc := 803) X dL_law_803 ic_2 ?_
      refine ao_iadd (pc := 804) X dL_law_804 ?_
      refine ao_bld (pc := 805) X hX dL_law_805 ?_
      refine ao_callVI (pc := 806) (As := [.int (xs (ix (p4 + (1 : Int32)))), .int (xs (ix (p4 + (2 : Int32))))]) (st := [.int r123]) X hl0 dL_law_806 yv_X12_speaks so_122 ml_RL_113 (mX12_speaks_122 hI (xs (ix (p4 + (1 : Int32)))) (xs (ix (p4 + (2 : Int32)))) m124) (Nat.le_of_ble_eq_true rfl) rfl rfl (Nat.le_of_ble_eq_true rfl) (fun r125 m126 => ?_)
      refine ao_icmp_eq (pc := 809) (tgt := 1639) X dL_law_809 (by decide) (fun _ => ?_) (fun _ => ?_)
      · refine ao_iinc (pc := 1639) (k := 4) (v := p4 + (5 : Int32)) (lv' := [(4, .int (p4 + (5 : Int32))), (0, .ref b), (1, .ref (eAd E 0)), (2, .ref (eAd E 122)), (3, .ref (eAd E 149))]) X dL_law_1639 rfl (ii_ic ic_5) (by decide) rfl ?_
        refine ao_goto (pc := 1642) (tgt := 23) X dL_law_1642 (by decide) ?_
        refine ao_sub [1, 2, 3, 4, 0] rfl ?_
        refine ao_bump ?_
        exact hk (p4 + (5 : Int32)) m126
      · refine ao_iconst (pc := 812) X dL_law_812 ic_0 ?_
        exact ao_none
    refine ao_ite (cd := x1 = (20 : Int32)) (fun c => ao_tabIn (pc := 39) (k := (20 : Int32)) (tgt := 814) X dL_law_39 c (by decide) (by decide) rfl (by decide) ?_) (fun n128 => ?_)
    · refine ao_aload_n (pc := 814) X dL_law_814 rfl ?_
      refine ao_aload_n (pc := 815) X dL_law_815 rfl ?_
      refine ao_iload (pc := 816) X dL_law_816 rfl ?_
      refine ao_iconst (pc := 818) X dL_law_818 ic_1 ?_
      refine ao_iadd (pc := 819) X dL_law_819 ?_
      refine ao_bld (pc := 820) X hX dL_law_820 ?_
      refine ao_aload_n (pc := 821) X dL_law_821 rfl ?_
      refine ao_iload (pc := 822) X dL_law_822 rfl ?_
      refine ao_iconst (pc := 824) X dL_law_824 ic_2 ?_
      refine ao_iadd (pc := 825) X dL_law_825 ?_
      refine ao_bld (pc := 826) X hX dL_law_826 ?_
      refine ao_callVI (pc := 827) (As := [.int (xs (ix (p4 + (1 : Int32)))), .int (xs (ix (p4 + (2 : Int32))))]) (st := []) X hl0 dL_law_827 yv_X11_least so_0 ml_RL_114 (mX11_least_0 hI (xs (ix (p4 + (1 : Int32)))) (xs (ix (p4 + (2 : Int32)))) μ) (Nat.le_of_ble_eq_true rfl) rfl rfl (Nat.le_of_ble_eq_true rfl) (fun r129 m130 => ?_)
      refine ao_aload_n (pc := 830) X dL_law_830 rfl ?_
      refine ao_aload_n (pc := 831) X dL_law_831 rfl ?_
      refine ao_iload (pc := 832) X dL_law_832 rfl ?_
      refine ao_iconst (pc := 834) X dL_law_834 ic_1 ?_
      refine ao_iadd (pc := 835) X dL_law_835 ?_
      refine ao_bld (pc := 836) X hX dL_law_836 ?_
      refine ao_aload_n (pc := 837) X dL_law_837 rfl ?_
      refine ao_iload (pc := 838) X dL_law_838 rfl ?_
      refine ao_iconst (pc := 840) X dL_law_840 ic_2 ?_
      refine ao_iadd (pc := 841) X dL_law_841 ?_
      refine ao_bld (pc := 842) X hX dL_law_842 ?_
      refine ao_callVI (pc := 843) (As := [.int (xs (ix (p4 + (1 : Int32)))), .int (xs (ix (p4 + (2 : Int32))))]) (st := [.int r129]) X hl0 dL_law_843 yv_X12_least so_122 ml_RL_117 (mX12_least_122 hI (xs (ix (p4 + (1 : Int32)))) (xs (ix (p4 + (2 : Int32)))) m130) (Nat.le_of_ble_eq_true rfl) rfl rfl (Nat.le_of_ble_eq_true rfl) (fun r131 m132 => ?_)
      refine ao_icmp_eq (pc := 846) (tgt := 1639) X dL_law_846 (by decide) (fun _ => ?_) (fun _ => ?_)
      · refine ao_iinc (pc := 1639) (k := 4) (v := p4 + (5 : Int32)) (lv' := [(4, .int (p4 + (5 : Int32))), (0, .ref b), (1, .ref (eAd E 0)), (2, .ref (eAd E 122)), (3, .ref (eAd E 149))]) X dL_law_1639 rfl (ii_ic ic_5) (by decide) rfl ?_
        refine ao_goto (pc := 1642) (tgt := 23) X dL_law_1642 (by decide) ?_
        refine ao_sub [1, 2, 3, 4, 0] rfl ?_
        refine ao_bump ?_
        exact hk (p4 + (5 : Int32)) m132
      · refine ao_iconst (pc := 849) X dL_law_849 ic_0 ?_
        exact ao_none
    refine ao_ite (cd := x1 = (21 : Int32)) (fun c => ao_tabIn (pc := 39) (k := (21 : Int32)) (tgt := 851) X dL_law_39 c (by decide) (by decide) rfl (by decide) ?_) (fun n134 => ?_)
    · refine ao_aload_n (pc := 851) X dL_law_851 rfl ?_
      refine ao_aload_n (pc := 852) X dL_law_852 rfl ?_
      refine ao_iload (pc := 853) X dL_law_853 rfl ?_
      refine ao_iconst (pc := 855) X dL_law_855 ic_1 ?_
      refine ao_iadd (pc := 856) X dL_law_856 ?_
      refine ao_bld (pc := 857) X hX dL_law_857 ?_
      refine ao_aload_n (pc := 858) X dL_law_858 rfl ?_
      refine ao_iload (pc := 859) X dL_law_859 rfl ?_
      refine ao_iconst (pc := 861) X dL_law_861 ic_2 ?_
      refine ao_iadd (pc := 862) X dL_law_862 ?_
      refine ao_bld (pc := 863) X hX dL_law_863 ?_
      refine ao_callVI (pc := 864) (As := [.int (xs (ix (p4 + (1 : Int32)))), .int (xs (ix (p4 + (2 : Int32))))]) (st := []) X hl0 dL_law_864 yv_X11_mercy so_0 ml_RL_118 (mX11_mercy_0 hI (xs (ix (p4 + (1 : Int32)))) (xs (ix (p4 + (2 : Int32)))) μ) (Nat.le_of_ble_eq_true rfl) rfl rfl (Nat.le_of_ble_eq_true rfl) (fun r135 m136 => ?_)
      refine ao_aload_n (pc := 867) X dL_law_867 rfl ?_
      refine ao_aload_n (pc := 868) X dL_law_868 rfl ?_
      refine ao_iload (pc := 869) X dL_law_869 rfl ?_
      refine ao_iconst (pc := 871) X dL_law_871 ic_1 ?_
      refine ao_iadd (pc := 872) X dL_law_872 ?_
      refine ao_bld (pc := 873) X hX dL_law_873 ?_
      refine ao_aload_n (pc := 874) X dL_law_874 rfl ?_
      refine ao_iload (pc := 875) X dL_law_875 rfl ?_
      refine ao_iconst (pc := 877) X dL_law_877 ic_2 ?_
      refine ao_iadd (pc := 878) X dL_law_878 ?_
      refine ao_bld (pc := 879) X hX dL_law_879 ?_
      refine ao_callVI (pc := 880) (As := [.int (xs (ix (p4 + (1 : Int32)))), .int (xs (ix (p4 + (2 : Int32))))]) (st := [.int r135]) X hl0 dL_law_880 yv_X12_mercy so_122 ml_RL_121 (mX12_mercy_122 hI (xs (ix (p4 + (1 : Int32)))) (xs (ix (p4 + (2 : Int32)))) m136) (Nat.le_of_ble_eq_true rfl) rfl rfl (Nat.le_of_ble_eq_true rfl) (fun r137 m138 => ?_)
      refine ao_icmp_eq (pc := 883) (tgt := 1639) X dL_law_883 (by decide) (fun _ => ?_) (fun _ => ?_)
      · refine ao_iinc (pc := 1639) (k := 4) (v := p4 + (5 : Int32)) (lv' := [(4, .int (p4 + (5 : Int32))), (0, .ref b), (1, .ref (eAd E 0)), (2, .ref (eAd E 122)), (3, .ref (eAd E 149))]) X dL_law_1639 rfl (ii_ic ic_5) (by decide) rfl ?_
        refine ao_goto (pc := 1642) (tgt := 23) X dL_law_1642 (by decide) ?_
        refine ao_sub [1, 2, 3, 4, 0] rfl ?_
        refine ao_bump ?_
        exact hk (p4 + (5 : Int32)) m138
      · refine ao_iconst (pc := 886) X dL_law_886 ic_0 ?_
        exact ao_none
    refine ao_ite (cd := x1 = (22 : Int32)) (fun c => ao_tabIn (pc := 39) (k := (22 : Int32)) (tgt := 888) X dL_law_39 c (by decide) (by decide) rfl (by decide) ?_) (fun n140 => ?_)
    · refine ao_aload_n (pc := 888) X dL_law_888 rfl ?_
      refine ao_aload_n (pc := 889) X dL_law_889 rfl ?_
      refine ao_iload (pc := 890) X dL_law_890 rfl ?_
      refine ao_iconst (pc := 892) X dL_law_892 ic_1 ?_
      refine ao_iadd (pc := 893) X dL_law_893 ?_
      refine ao_bld (pc := 894) X hX dL_law_894 ?_
      refine ao_callVI (pc := 895) (As := [.int (xs (ix (p4 + (1 : Int32))))]) (st := []) X hl0 dL_law_895 yv_X11_longest so_0 ml_RL_122 (mX11_longest_0 hI (xs (ix (p4 + (1 : Int32)))) μ) (Nat.le_of_ble_eq_true rfl) rfl rfl (Nat.le_of_ble_eq_true rfl) (fun r141 m142 => ?_)
      refine ao_aload_n (pc := 898) X dL_law_898 rfl ?_
      refine ao_aload_n (pc := 899) X dL_law_899 rfl ?_
      refine ao_iload (pc := 900) X dL_law_900 rfl ?_
      refine ao_iconst (pc := 902) X dL_law_902 ic_1 ?_
      refine ao_iadd (pc := 903) X dL_law_903 ?_
      refine ao_bld (pc := 904) X hX dL_law_904 ?_
      refine ao_callVI (pc := 905) (As := [.int (xs (ix (p4 + (1 : Int32))))]) (st := [.int r141]) X hl0 dL_law_905 yv_X12_longest so_122 ml_RL_125 (mX12_longest_122 hI (xs (ix (p4 + (1 : Int32)))) m142) (Nat.le_of_ble_eq_true rfl) rfl rfl (Nat.le_of_ble_eq_true rfl) (fun r143 m144 => ?_)
      refine ao_icmp_eq (pc := 908) (tgt := 1639) X dL_law_908 (by decide) (fun _ => ?_) (fun _ => ?_)
      · refine ao_iinc (pc := 1639) (k := 4) (v := p4 + (5 : Int32)) (lv' := [(4, .int (p4 + (5 : Int32))), (0, .ref b), (1, .ref (eAd E 0)), (2, .ref (eAd E 122)), (3, .ref (eAd E 149))]) X dL_law_1639 rfl (ii_ic ic_5) (by decide) rfl ?_
        refine ao_goto (pc := 1642) (tgt := 23) X dL_law_1642 (by decide) ?_
        refine ao_sub [1, 2, 3, 4, 0] rfl ?_
        refine ao_bump ?_
        exact hk (p4 + (5 : Int32)) m144
      · refine ao_iconst (pc := 911) X dL_law_911 ic_0 ?_
        exact ao_none
    refine ao_ite (cd := x1 = (23 : Int32)) (fun c => ao_tabIn (pc := 39) (k := (23 : Int32)) (tgt := 913) X dL_law_39 c (by decide) (by decide) rfl (by decide) ?_) (fun n146 => ?_)
    · refine ao_aload_n (pc := 913) X dL_law_913 rfl ?_
      refine ao_aload_n (pc := 914) X dL_law_914 rfl ?_
      refine ao_iload (pc := 915) X dL_law_915 rfl ?_
      refine ao_iconst (pc := 917) X dL_law_917 ic_1 ?_
      refine ao_iadd (pc := 918) X dL_law_918 ?_
      refine ao_bld (pc := 919) X hX dL_law_919 ?_
      refine ao_aload_n (pc := 920) X dL_law_920 rfl ?_
      refine ao_iload (pc := 921) X dL_law_921 rfl ?_
      refine ao_iconst (pc := 923) X dL_law_923 ic_2 ?_
      refine ao_iadd (pc := 924) X dL_law_924 ?_
      refine ao_bld (pc := 925) X hX dL_law_925 ?_
      refine ao_callVI (pc := 926) (As := [.int (xs (ix (p4 + (1 : Int32)))), .int (xs (ix (p4 + (2 : Int32))))]) (st := []) X hl0 dL_law_926 yv_X11_alike so_0 ml_RL_126 (mX11_alike_0 hI (xs (ix (p4 + (1 : Int32)))) (xs (ix (p4 + (2 : Int32)))) μ) (Nat.le_of_ble_eq_true rfl) rfl rfl (Nat.le_of_ble_eq_true rfl) (fun r147 m148 => ?_)
      refine ao_aload_n (pc := 929) X dL_law_929 rfl ?_
      refine ao_aload_n (pc := 930) X dL_law_930 rfl ?_
      refine ao_iload (pc := 931) X dL_law_931 rfl ?_
      refine ao_iconst (pc := 933) X dL_law_933 ic_1 ?_
      refine ao_iadd (pc := 934) X dL_law_934 ?_
      refine ao_bld (pc := 935) X hX dL_law_935 ?_
      refine ao_aload_n (pc := 936) X dL_law_936 rfl ?_
      refine ao_iload (pc := 937) X dL_law_937 rfl ?_
      refine ao_iconst (pc := 939) X dL_law_939 ic_2 ?_
      refine ao_iadd (pc := 940) X dL_law_940 ?_
      refine ao_bld (pc := 941) X hX dL_law_941 ?_
      refine ao_callVI (pc := 942) (As := [.int (xs (ix (p4 + (1 : Int32)))), .int (xs (ix (p4 + (2 : Int32))))]) (st := [.int r147]) X hl0 dL_law_942 yv_X12_alike so_122 ml_RL_129 (mX12_alike_122 hI (xs (ix (p4 + (1 : Int32)))) (xs (ix (p4 + (2 : Int32)))) m148) (Nat.le_of_ble_eq_true rfl) rfl rfl (Nat.le_of_ble_eq_true rfl) (fun r149 m150 => ?_)
      refine ao_icmp_eq (pc := 945) (tgt := 1639) X dL_law_945 (by decide) (fun _ => ?_) (fun _ => ?_)
      · refine ao_iinc (pc := 1639) (k := 4) (v := p4 + (5 : Int32)) (lv' := [(4, .int (p4 + (5 : Int32))), (0, .ref b), (1, .ref (eAd E 0)), (2, .ref (eAd E 122)), (3, .ref (eAd E 149))]) X dL_law_1639 rfl (ii_ic ic_5) (by decide) rfl ?_
        refine ao_goto (pc := 1642) (tgt := 23) X dL_law_1642 (by decide) ?_
        refine ao_sub [1, 2, 3, 4, 0] rfl ?_
        refine ao_bump ?_
        exact hk (p4 + (5 : Int32)) m150
      · refine ao_iconst (pc := 948) X dL_law_948 ic_0 ?_
        exact ao_none
    refine ao_ite (cd := x1 = (24 : Int32)) (fun c => ao_tabIn (pc := 39) (k := (24 : Int32)) (tgt := 950) X dL_law_39 c (by decide) (by decide) rfl (by decide) ?_) (fun n152 => ?_)
    · refine ao_aload_n (pc := 950) X dL_law_950 rfl ?_
      refine ao_aload_n (pc := 951) X dL_law_951 rfl ?_
      refine ao_iload (pc := 952) X dL_law_952 rfl ?_
      refine ao_iconst (pc := 954) X dL_law_954 ic_1 ?_
      refine ao_iadd (pc := 955) X dL_law_955 ?_
      refine ao_bld (pc := 956) X hX dL_law_956 ?_
      refine ao_callVI (pc := 957) (As := [.int (xs (ix (p4 + (1 : Int32))))]) (st := []) X hl0 dL_law_957 yv_X11_stones so_0 ml_RL_130 (mX11_stones_0 hI (xs (ix (p4 + (1 : Int32)))) μ) (Nat.le_of_ble_eq_true rfl) rfl rfl (Nat.le_of_ble_eq_true rfl) (fun r153 m154 => ?_)
      refine ao_aload_n (pc := 960) X dL_law_960 rfl ?_
      refine ao_aload_n (pc := 961) X dL_law_961 rfl ?_
      refine ao_iload (pc := 962) X dL_law_962 rfl ?_
      refine ao_iconst (pc := 964) X dL_law_964 ic_1 ?_
      refine ao_iadd (pc := 965) X dL_law_965 ?_
      refine ao_bld (pc := 966) X hX dL_law_966 ?_
      refine ao_callVI (pc := 967) (As := [.int (xs (ix (p4 + (1 : Int32))))]) (st := [.int r153]) X hl0 dL_law_967 yv_X12_stones so_122 ml_RL_133 (mX12_stones_122 hI (xs (ix (p4 + (1 : Int32)))) m154) (Nat.le_of_ble_eq_true rfl) rfl rfl (Nat.le_of_ble_eq_true rfl) (fun r155 m156 => ?_)
      refine ao_icmp_eq (pc := 970) (tgt := 1639) X dL_law_970 (by decide) (fun _ => ?_) (fun _ => ?_)
      · refine ao_iinc (pc := 1639) (k := 4) (v := p4 + (5 : Int32)) (lv' := [(4, .int (p4 + (5 : Int32))), (0, .ref b), (1, .ref (eAd E 0)), (2, .ref (eAd E 122)), (3, .ref (eAd E 149))]) X dL_law_1639 rfl (ii_ic ic_5) (by decide) rfl ?_
        refine ao_goto (pc := 1642) (tgt := 23) X dL_law_1642 (by decide) ?_
        refine ao_sub [1, 2, 3, 4, 0] rfl ?_
        refine ao_bump ?_
        exact hk (p4 + (5 : Int32)) m156
      · refine ao_iconst (pc := 973) X dL_law_973 ic_0 ?_
        exact ao_none
    refine ao_ite (cd := x1 = (25 : Int32)) (fun c => ao_tabIn (pc := 39) (k := (25 : Int32)) (tgt := 975) X dL_law_39 c (by decide) (by decide) rfl (by decide) ?_) (fun n158 => ?_)
    · refine ao_aload_n (pc := 975) X dL_law_975 rfl ?_
      refine ao_aload_n (pc := 976) X dL_law_976 rfl ?_
      refine ao_iload (pc := 977) X dL_law_977 rfl ?_
      refine ao_iconst (pc := 979) X dL_law_979 ic_1 ?_
      refine ao_iadd (pc := 980) X dL_law_980 ?_
      refine ao_bld (pc := 981) X hX dL_law_981 ?_
      refine ao_callVI (pc := 982) (As := [.int (xs (ix (p4 + (1 : Int32))))]) (st := []) X hl0 dL_law_982 yv_X11_silent so_0 ml_RL_134 (mX11_silent_0 hI (xs (ix (p4 + (1 : Int32)))) μ) (Nat.le_of_ble_eq_true rfl) rfl rfl (Nat.le_of_ble_eq_true rfl) (fun r159 m160 => ?_)
      refine ao_aload_n (pc := 985) X dL_law_985 rfl ?_
      refine ao_aload_n (pc := 986) X dL_law_986 rfl ?_
      refine ao_iload (pc := 987) X dL_law_987 rfl ?_
      refine ao_iconst (pc := 989) X dL_law_989 ic_1 ?_
      refine ao_iadd (pc := 990) X dL_law_990 ?_
      refine ao_bld (pc := 991) X hX dL_law_991 ?_
      refine ao_callVI (pc := 992) (As := [.int (xs (ix (p4 + (1 : Int32))))]) (st := [.int r159]) X hl0 dL_law_992 yv_X12_silent so_122 ml_RL_137 (mX12_silent_122 hI (xs (ix (p4 + (1 : Int32)))) m160) (Nat.le_of_ble_eq_true rfl) rfl rfl (Nat.le_of_ble_eq_true rfl) (fun r161 m162 => ?_)
      refine ao_icmp_eq (pc := 995) (tgt := 1639) X dL_law_995 (by decide) (fun _ => ?_) (fun _ => ?_)
      · refine ao_iinc (pc := 1639) (k := 4) (v := p4 + (5 : Int32)) (lv' := [(4, .int (p4 + (5 : Int32))), (0, .ref b), (1, .ref (eAd E 0)), (2, .ref (eAd E 122)), (3, .ref (eAd E 149))]) X dL_law_1639 rfl (ii_ic ic_5) (by decide) rfl ?_
        refine ao_goto (pc := 1642) (tgt := 23) X dL_law_1642 (by decide) ?_
        refine ao_sub [1, 2, 3, 4, 0] rfl ?_
        refine ao_bump ?_
        exact hk (p4 + (5 : Int32)) m162
      · refine ao_iconst (pc := 998) X dL_law_998 ic_0 ?_
        exact ao_none
    refine ao_ite (cd := x1 = (26 : Int32)) (fun c => ao_tabIn (pc := 39) (k := (26 : Int32)) (tgt := 1000) X dL_law_39 c (by decide) (by decide) rfl (by decide) ?_) (fun n164 => ?_)
    · refine ao_aload_n (pc := 1000) X dL_law_1000 rfl ?_
      refine ao_aload_n (pc := 1001) X dL_law_1001 rfl ?_
      refine ao_iload (pc := 1002) X dL_law_1002 rfl ?_
      refine ao_iconst (pc := 1004) X dL_law_1004 ic_1 ?_
      refine ao_iadd (pc := 1005) X dL_law_1005 ?_
      refine ao_bld (pc := 1006) X hX dL_law_1006 ?_
      refine ao_aload_n (pc := 1007) X dL_law_1007 rfl ?_
      refine ao_iload (pc := 1008) X dL_law_1008 rfl ?_
      refine ao_iconst (pc := 1010) X dL_law_1010 ic_2 ?_
      refine ao_iadd (pc := 1011) X dL_law_1011 ?_
      refine ao_bld (pc := 1012) X hX dL_law_1012 ?_
      refine ao_callVI (pc := 1013) (As := [.int (xs (ix (p4 + (1 : Int32)))), .int (xs (ix (p4 + (2 : Int32))))]) (st := []) X hl0 dL_law_1013 yv_X11_proof so_0 ml_RL_138 (mX11_proof_0 hI (xs (ix (p4 + (1 : Int32)))) (xs (ix (p4 + (2 : Int32)))) μ) (Nat.le_of_ble_eq_true rfl) rfl rfl (Nat.le_of_ble_eq_true rfl) (fun r165 m166 => ?_)
      refine ao_aload_n (pc := 1016) X dL_law_1016 rfl ?_
      refine ao_aload_n (pc := 1017) X dL_law_1017 rfl ?_
      refine ao_iload (pc := 1018) X dL_law_1018 rfl ?_
      refine ao_iconst (pc := 1020) X dL_law_1020 ic_1 ?_
      refine ao_iadd (pc := 1021) X dL_law_1021 ?_
      refine ao_bld (pc := 1022) X hX dL_law_1022 ?_
      refine ao_aload_n (pc := 1023) X dL_law_1023 rfl ?_
      refine ao_iload (pc := 1024) X dL_law_1024 rfl ?_
      refine ao_iconst (pc := 1026) X dL_law_1026 ic_2 ?_
      refine ao_iadd (pc := 1027) X dL_law_1027 ?_
      refine ao_bld (pc := 1028) X hX dL_law_1028 ?_
      refine ao_callVI (pc := 1029) (As := [.int (xs (ix (p4 + (1 : Int32)))), .int (xs (ix (p4 + (2 : Int32))))]) (st := [.int r165]) X hl0 dL_law_1029 yv_X12_proof so_122 ml_RL_141 (mX12_proof_122 hI (xs (ix (p4 + (1 : Int32)))) (xs (ix (p4 + (2 : Int32)))) m166) (Nat.le_of_ble_eq_true rfl) rfl rfl (Nat.le_of_ble_eq_true rfl) (fun r167 m168 => ?_)
      refine ao_icmp_eq (pc := 1032) (tgt := 1639) X dL_law_1032 (by decide) (fun _ => ?_) (fun _ => ?_)
      · refine ao_iinc (pc := 1639) (k := 4) (v := p4 + (5 : Int32)) (lv' := [(4, .int (p4 + (5 : Int32))), (0, .ref b), (1, .ref (eAd E 0)), (2, .ref (eAd E 122)), (3, .ref (eAd E 149))]) X dL_law_1639 rfl (ii_ic ic_5) (by decide) rfl ?_
        refine ao_goto (pc := 1642) (tgt := 23) X dL_law_1642 (by decide) ?_
        refine ao_sub [1, 2, 3, 4, 0] rfl ?_
        refine ao_bump ?_
        exact hk (p4 + (5 : Int32)) m168
      · refine ao_iconst (pc := 1035) X dL_law_1035 ic_0 ?_
        exact ao_none
    refine ao_ite (cd := x1 = (27 : Int32)) (fun c => ao_tabIn (pc := 39) (k := (27 : Int32)) (tgt := 1037) X dL_law_39 c (by decide) (by decide) rfl (by decide) ?_) (fun n170 => ?_)
    · refine ao_aload_n (pc := 1037) X dL_law_1037 rfl ?_
      refine ao_aload_n (pc := 1038) X dL_law_1038 rfl ?_
      refine ao_iload (pc := 1039) X dL_law_1039 rfl ?_
      refine ao_iconst (pc := 1041) X dL_law_1041 ic_1 ?_
      refine ao_iadd (pc := 1042) X dL_law_1042 ?_
      refine ao_bld (pc := 1043) X hX dL_law_1043 ?_
      refine ao_callVI (pc := 1044) (As := [.int (xs (ix (p4 + (1 : Int32))))]) (st := []) X hl0 dL_law_1044 yv_X11_till so_0 ml_RL_142 (mX11_till_0 hI (xs (ix (p4 + (1 : Int32)))) μ) (Nat.le_of_ble_eq_true rfl) rfl rfl (Nat.le_of_ble_eq_true rfl) (fun r171 m172 => ?_)
      refine ao_aload_n (pc := 1047) X dL_law_1047 rfl ?_
      refine ao_aload_n (pc := 1048) X dL_law_1048 rfl ?_
      refine ao_iload (pc := 1049) X dL_law_1049 rfl ?_
      refine ao_iconst (pc := 1051) X dL_law_1051 ic_1 ?_
      refine ao_iadd (pc := 1052) X dL_law_1052 ?_
      refine ao_bld (pc := 1053) X hX dL_law_1053 ?_
      refine ao_callVI (pc := 1054) (As := [.int (xs (ix (p4 + (1 : Int32))))]) (st := [.int r171]) X hl0 dL_law_1054 yv_X12_till so_122 ml_RL_145 (mX12_till_122 hI (xs (ix (p4 + (1 : Int32)))) m172) (Nat.le_of_ble_eq_true rfl) rfl rfl (Nat.le_of_ble_eq_true rfl) (fun r173 m174 => ?_)
      refine ao_icmp_eq (pc := 1057) (tgt := 1639) X dL_law_1057 (by decide) (fun _ => ?_) (fun _ => ?_)
      · refine ao_iinc (pc := 1639) (k := 4) (v := p4 + (5 : Int32)) (lv' := [(4, .int (p4 + (5 : Int32))), (0, .ref b), (1, .ref (eAd E 0)), (2, .ref (eAd E 122)), (3, .ref (eAd E 149))]) X dL_law_1639 rfl (ii_ic ic_5) (by decide) rfl ?_
        refine ao_goto (pc := 1642) (tgt := 23) X dL_law_1642 (by decide) ?_
        refine ao_sub [1, 2, 3, 4, 0] rfl ?_
        refine ao_bump ?_
        exact hk (p4 + (5 : Int32)) m174
      · refine ao_iconst (pc := 1060) X dL_law_1060 ic_0 ?_
        exact ao_none
    refine ao_ite (cd := x1 = (28 : Int32)) (fun c => ao_tabIn (pc := 39) (k := (28 : Int32)) (tgt := 1062) X dL_law_39 c (by decide) (by decide) rfl (by decide) ?_) (fun n176 => ?_)
    · refine ao_aload_n (pc := 1062) X dL_law_1062 rfl ?_
      refine ao_aload_n (pc := 1063) X dL_law_1063 rfl ?_
      refine ao_iload (pc := 1064) X dL_law_1064 rfl ?_
      refine ao_iconst (pc := 1066) X dL_law_1066 ic_1 ?_
      refine ao_iadd (pc := 1067) X dL_law_1067 ?_
      refine ao_bld (pc := 1068) X hX dL_law_1068 ?_
      refine ao_aload_n (pc := 1069) X dL_law_1069 rfl ?_
      refine ao_iload (pc := 1070) X dL_law_1070 rfl ?_
      refine ao_iconst (pc := 1072) X dL_law_1072 ic_2 ?_
      refine ao_iadd (pc := 1073) X dL_law_1073 ?_
      refine ao_bld (pc := 1074) X hX dL_law_1074 ?_
      refine ao_callVI (pc := 1075) (As := [.int (xs (ix (p4 + (1 : Int32)))), .int (xs (ix (p4 + (2 : Int32))))]) (st := []) X hl0 dL_law_1075 yv_X11_gains so_0 ml_RL_146 (mX11_gains_0 hI (xs (ix (p4 + (1 : Int32)))) (xs (ix (p4 + (2 : Int32)))) μ) (Nat.le_of_ble_eq_true rfl) rfl rfl (Nat.le_of_ble_eq_true rfl) (fun r177 m178 => ?_)
      refine ao_aload_n (pc := 1078) X dL_law_1078 rfl ?_
      refine ao_aload_n (pc := 1079) X dL_law_1079 rfl ?_
      refine ao_iload (pc := 1080) X dL_law_1080 rfl ?_
      refine ao_iconst (pc := 1082) X dL_law_1082 ic_1 ?_
      refine ao_iadd (pc := 1083) X dL_law_1083 ?_
      refine ao_bld (pc := 1084) X hX dL_law_1084 ?_
      refine ao_aload_n (pc := 1085) X dL_law_1085 rfl ?_
      refine ao_iload (pc := 1086) X dL_law_1086 rfl ?_
      refine ao_iconst (pc := 1088) X dL_law_1088 ic_2 ?_
      refine ao_iadd (pc := 1089) X dL_law_1089 ?_
      refine ao_bld (pc := 1090) X hX dL_law_1090 ?_
      refine ao_callVI (pc := 1091) (As := [.int (xs (ix (p4 + (1 : Int32)))), .int (xs (ix (p4 + (2 : Int32))))]) (st := [.int r177]) X hl0 dL_law_1091 yv_X12_gains so_122 ml_RL_149 (mX12_gains_122 hI (xs (ix (p4 + (1 : Int32)))) (xs (ix (p4 + (2 : Int32)))) m178) (Nat.le_of_ble_eq_true rfl) rfl rfl (Nat.le_of_ble_eq_true rfl) (fun r179 m180 => ?_)
      refine ao_icmp_eq (pc := 1094) (tgt := 1639) X dL_law_1094 (by decide) (fun _ => ?_) (fun _ => ?_)
      · refine ao_iinc (pc := 1639) (k := 4) (v := p4 + (5 : Int32)) (lv' := [(4, .int (p4 + (5 : Int32))), (0, .ref b), (1, .ref (eAd E 0)), (2, .ref (eAd E 122)), (3, .ref (eAd E 149))]) X dL_law_1639 rfl (ii_ic ic_5) (by decide) rfl ?_
        refine ao_goto (pc := 1642) (tgt := 23) X dL_law_1642 (by decide) ?_
        refine ao_sub [1, 2, 3, 4, 0] rfl ?_
        refine ao_bump ?_
        exact hk (p4 + (5 : Int32)) m180
      · refine ao_iconst (pc := 1097) X dL_law_1097 ic_0 ?_
        exact ao_none
    refine ao_ite (cd := x1 = (29 : Int32)) (fun c => ao_tabIn (pc := 39) (k := (29 : Int32)) (tgt := 1099) X dL_law_39 c (by decide) (by decide) rfl (by decide) ?_) (fun n182 => ?_)
    · refine ao_aload_n (pc := 1099) X dL_law_1099 rfl ?_
      refine ao_aload_n (pc := 1100) X dL_law_1100 rfl ?_
      refine ao_iload (pc := 1101) X dL_law_1101 rfl ?_
      refine ao_iconst (pc := 1103) X dL_law_1103 ic_1 ?_
      refine ao_iadd (pc := 1104) X dL_law_1104 ?_
      refine ao_bld (pc := 1105) X hX dL_law_1105 ?_
      refine ao_aload_n (pc := 1106) X dL_law_1106 rfl ?_
      refine ao_iload (pc := 1107) X dL_law_1107 rfl ?_
      refine ao_iconst (pc := 1109) X dL_law_1109 ic_2 ?_
      refine ao_iadd (pc := 1110) X dL_law_1110 ?_
      refine ao_bld (pc := 1111) X hX dL_law_1111 ?_
      refine ao_callVI (pc := 1112) (As := [.int (xs (ix (p4 + (1 : Int32)))), .int (xs (ix (p4 + (2 : Int32))))]) (st := []) X hl0 dL_law_1112 yv_X11_lacks so_0 ml_RL_150 (mX11_lacks_0 hI (xs (ix (p4 + (1 : Int32)))) (xs (ix (p4 + (2 : Int32)))) μ) (Nat.le_of_ble_eq_true rfl) rfl rfl (Nat.le_of_ble_eq_true rfl) (fun r183 m184 => ?_)
      refine ao_aload_n (pc := 1115) X dL_law_1115 rfl ?_
      refine ao_aload_n (pc := 1116) X dL_law_1116 rfl ?_
      refine ao_iload (pc := 1117) X dL_law_1117 rfl ?_
      refine ao_iconst (pc := 1119) X dL_law_1119 ic_1 ?_
      refine ao_iadd (pc := 1120) X dL_law_1120 ?_
      refine ao_bld (pc := 1121) X hX dL_law_1121 ?_
      refine ao_aload_n (pc := 1122) X dL_law_1122 rfl ?_
      refine ao_iload (pc := 1123) X dL_law_1123 rfl ?_
      refine ao_iconst (pc := 1125) X dL_law_1125 ic_2 ?_
      refine ao_iadd (pc := 1126) X dL_law_1126 ?_
      refine ao_bld (pc := 1127) X hX dL_law_1127 ?_
      refine ao_callVI (pc := 1128) (As := [.int (xs (ix (p4 + (1 : Int32)))), .int (xs (ix (p4 + (2 : Int32))))]) (st := [.int r183]) X hl0 dL_law_1128 yv_X12_lacks so_122 ml_RL_153 (mX12_lacks_122 hI (xs (ix (p4 + (1 : Int32)))) (xs (ix (p4 + (2 : Int32)))) m184) (Nat.le_of_ble_eq_true rfl) rfl rfl (Nat.le_of_ble_eq_true rfl) (fun r185 m186 => ?_)
      refine ao_icmp_eq (pc := 1131) (tgt := 1639) X dL_law_1131 (by decide) (fun _ => ?_) (fun _ => ?_)
      · refine ao_iinc (pc := 1639) (k := 4) (v := p4 + (5 : Int32)) (lv' := [(4, .int (p4 + (5 : Int32))), (0, .ref b), (1, .ref (eAd E 0)), (2, .ref (eAd E 122)), (3, .ref (eAd E 149))]) X dL_law_1639 rfl (ii_ic ic_5) (by decide) rfl ?_
        refine ao_goto (pc := 1642) (tgt := 23) X dL_law_1642 (by decide) ?_
        refine ao_sub [1, 2, 3, 4, 0] rfl ?_
        refine ao_bump ?_
        exact hk (p4 + (5 : Int32)) m186
      · refine ao_iconst (pc := 1134) X dL_law_1134 ic_0 ?_
        exact ao_none
    refine ao_ite (cd := x1 = (30 : Int32)) (fun c => ao_tabIn (pc := 39) (k := (30 : Int32)) (tgt := 1136) X dL_law_39 c (by decide) (by decide) rfl (by decide) ?_) (fun n188 => ?_)
    · refine ao_aload_n (pc := 1136) X dL_law_1136 rfl ?_
      refine ao_aload_n (pc := 1137) X dL_law_1137 rfl ?_
      refine ao_iload (pc := 1138) X dL_law_1138 rfl ?_
      refine ao_iconst (pc := 1140) X dL_law_1140 ic_1 ?_
      refine ao_iadd (pc := 1141) X dL_law_1141 ?_
      refine ao_bld (pc := 1142) X hX dL_law_1142 ?_
      refine ao_callVI (pc := 1143) (As := [.int (xs (ix (p4 + (1 : Int32))))]) (st := []) X hl0 dL_law_1143 yv_X11_best so_0 ml_RL_154 (mX11_best_0 hI (xs (ix (p4 + (1 : Int32)))) μ) (Nat.le_of_ble_eq_true rfl) rfl rfl (Nat.le_of_ble_eq_true rfl) (fun r189 m190 => ?_)
      refine ao_aload_n (pc := 1146) X dL_law_1146 rfl ?_
      refine ao_aload_n (pc := 1147) X dL_law_1147 rfl ?_
      refine ao_iload (pc := 1148) X dL_law_1148 rfl ?_
      refine ao_iconst (pc := 1150) X dL_law_1150 ic_1 ?_
      refine ao_iadd (pc := 1151) X dL_law_1151 ?_
      refine ao_bld (pc := 1152) X hX dL_law_1152 ?_
      refine ao_callVI (pc := 1153) (As := [.int (xs (ix (p4 + (1 : Int32))))]) (st := [.int r189]) X hl0 dL_law_1153 yv_X12_best so_122 ml_RL_157 (mX12_best_122 hI (xs (ix (p4 + (1 : Int32)))) m190) (Nat.le_of_ble_eq_true rfl) rfl rfl (Nat.le_of_ble_eq_true rfl) (fun r191 m192 => ?_)
      refine ao_icmp_eq (pc := 1156) (tgt := 1639) X dL_law_1156 (by decide) (fun _ => ?_) (fun _ => ?_)
      · refine ao_iinc (pc := 1639) (k := 4) (v := p4 + (5 : Int32)) (lv' := [(4, .int (p4 + (5 : Int32))), (0, .ref b), (1, .ref (eAd E 0)), (2, .ref (eAd E 122)), (3, .ref (eAd E 149))]) X dL_law_1639 rfl (ii_ic ic_5) (by decide) rfl ?_
        refine ao_goto (pc := 1642) (tgt := 23) X dL_law_1642 (by decide) ?_
        refine ao_sub [1, 2, 3, 4, 0] rfl ?_
        refine ao_bump ?_
        exact hk (p4 + (5 : Int32)) m192
      · refine ao_iconst (pc := 1159) X dL_law_1159 ic_0 ?_
        exact ao_none
    refine ao_ite (cd := x1 = (31 : Int32)) (fun c => ao_tabIn (pc := 39) (k := (31 : Int32)) (tgt := 1161) X dL_law_39 c (by decide) (by decide) rfl (by decide) ?_) (fun n194 => ?_)
    · refine ao_aload_n (pc := 1161) X dL_law_1161 rfl ?_
      refine ao_callVI (pc := 1162) (As := []) (st := []) X hl0 dL_law_1162 yv_X11_trials so_0 ml_RL_158 (mX11_trials_0 hI μ) (Nat.le_of_ble_eq_true rfl) rfl rfl (Nat.le_of_ble_eq_true rfl) (fun r195 m196 => ?_)
      refine ao_aload_n (pc := 1165) X dL_law_1165 rfl ?_
      refine ao_callVI (pc := 1166) (As := []) (st := [.int r195]) X hl0 dL_law_1166 yv_X12_trials so_122 ml_RL_161 (mX12_trials_122 hI m196) (Nat.le_of_ble_eq_true rfl) rfl rfl (Nat.le_of_ble_eq_true rfl) (fun r197 m198 => ?_)
      refine ao_icmp_eq (pc := 1169) (tgt := 1639) X dL_law_1169 (by decide) (fun _ => ?_) (fun _ => ?_)
      · refine ao_iinc (pc := 1639) (k := 4) (v := p4 + (5 : Int32)) (lv' := [(4, .int (p4 + (5 : Int32))), (0, .ref b), (1, .ref (eAd E 0)), (2, .ref (eAd E 122)), (3, .ref (eAd E 149))]) X dL_law_1639 rfl (ii_ic ic_5) (by decide) rfl ?_
        refine ao_goto (pc := 1642) (tgt := 23) X dL_law_1642 (by decide) ?_
        refine ao_sub [1, 2, 3, 4, 0] rfl ?_
        refine ao_bump ?_
        exact hk (p4 + (5 : Int32)) m198
      · refine ao_iconst (pc := 1172) X dL_law_1172 ic_0 ?_
        exact ao_none
    refine ao_ite (cd := x1 = (32 : Int32)) (fun c => ao_tabIn (pc := 39) (k := (32 : Int32)) (tgt := 1174) X dL_law_39 c (by decide) (by decide) rfl (by decide) ?_) (fun n200 => ?_)
    · refine ao_aload_n (pc := 1174) X dL_law_1174 rfl ?_
      refine ao_callVI (pc := 1175) (As := []) (st := []) X hl0 dL_law_1175 yv_X11_docket so_0 ml_RL_162 (mX11_docket_0 hI μ) (Nat.le_of_ble_eq_true rfl) rfl rfl (Nat.le_of_ble_eq_true rfl) (fun r201 m202 => ?_)
      refine ao_aload_n (pc := 1178) X dL_law_1178 rfl ?_
      refine ao_callVI (pc := 1179) (As := []) (st := [.int r201]) X hl0 dL_law_1179 yv_X12_docket so_122 ml_RL_165 (mX12_docket_122 hI m202) (Nat.le_of_ble_eq_true rfl) rfl rfl (Nat.le_of_ble_eq_true rfl) (fun r203 m204 => ?_)
      refine ao_icmp_eq (pc := 1182) (tgt := 1639) X dL_law_1182 (by decide) (fun _ => ?_) (fun _ => ?_)
      · refine ao_iinc (pc := 1639) (k := 4) (v := p4 + (5 : Int32)) (lv' := [(4, .int (p4 + (5 : Int32))), (0, .ref b), (1, .ref (eAd E 0)), (2, .ref (eAd E 122)), (3, .ref (eAd E 149))]) X dL_law_1639 rfl (ii_ic ic_5) (by decide) rfl ?_
        refine ao_goto (pc := 1642) (tgt := 23) X dL_law_1642 (by decide) ?_
        refine ao_sub [1, 2, 3, 4, 0] rfl ?_
        refine ao_bump ?_
        exact hk (p4 + (5 : Int32)) m204
      · refine ao_iconst (pc := 1185) X dL_law_1185 ic_0 ?_
        exact ao_none
    refine ao_ite (cd := x1 = (33 : Int32)) (fun c => ao_tabIn (pc := 39) (k := (33 : Int32)) (tgt := 1187) X dL_law_39 c (by decide) (by decide) rfl (by decide) ?_) (fun n206 => ?_)
    · refine ao_aload_n (pc := 1187) X dL_law_1187 rfl ?_
      refine ao_callVI (pc := 1188) (As := []) (st := []) X hl0 dL_law_1188 yv_X11_parts so_0 ml_RL_166 (mX11_parts_0 hI μ) (Nat.le_of_ble_eq_true rfl) rfl rfl (Nat.le_of_ble_eq_true rfl) (fun r207 m208 => ?_)
      refine ao_aload_n (pc := 1191) X dL_law_1191 rfl ?_
      refine ao_callVI (pc := 1192) (As := []) (st := [.int r207]) X hl0 dL_law_1192 yv_X12_parts so_122 ml_RL_169 (mX12_parts_122 hI m208) (Nat.le_of_ble_eq_true rfl) rfl rfl (Nat.le_of_ble_eq_true rfl) (fun r209 m210 => ?_)
      refine ao_icmp_eq (pc := 1195) (tgt := 1639) X dL_law_1195 (by decide) (fun _ => ?_) (fun _ => ?_)
      · refine ao_iinc (pc := 1639) (k := 4) (v := p4 + (5 : Int32)) (lv' := [(4, .int (p4 + (5 : Int32))), (0, .ref b), (1, .ref (eAd E 0)), (2, .ref (eAd E 122)), (3, .ref (eAd E 149))]) X dL_law_1639 rfl (ii_ic ic_5) (by decide) rfl ?_
        refine ao_goto (pc := 1642) (tgt := 23) X dL_law_1642 (by decide) ?_
        refine ao_sub [1, 2, 3, 4, 0] rfl ?_
        refine ao_bump ?_
        exact hk (p4 + (5 : Int32)) m210
      · refine ao_iconst (pc := 1198) X dL_law_1198 ic_0 ?_
        exact ao_none
    refine ao_ite (cd := x1 = (34 : Int32)) (fun c => ao_tabIn (pc := 39) (k := (34 : Int32)) (tgt := 1200) X dL_law_39 c (by decide) (by decide) rfl (by decide) ?_) (fun n212 => ?_)
    · refine ao_aload_n (pc := 1200) X dL_law_1200 rfl ?_
      refine ao_aload_n (pc := 1201) X dL_law_1201 rfl ?_
      refine ao_iload (pc := 1202) X dL_law_1202 rfl ?_
      refine ao_iconst (pc := 1204) X dL_law_1204 ic_1 ?_
      refine ao_iadd (pc := 1205) X dL_law_1205 ?_
      refine ao_bld (pc := 1206) X hX dL_law_1206 ?_
      refine ao_callVI (pc := 1207) (As := [.int (xs (ix (p4 + (1 : Int32))))]) (st := []) X hl0 dL_law_1207 yv_X11_hopes so_0 ml_RL_170 (mX11_hopes_0 hI (xs (ix (p4 + (1 : Int32)))) μ) (Nat.le_of_ble_eq_true rfl) rfl rfl (Nat.le_of_ble_eq_true rfl) (fun r213 m214 => ?_)
      refine ao_aload_n (pc := 1210) X dL_law_1210 rfl ?_
      refine ao_aload_n (pc := 1211) X dL_law_1211 rfl ?_
      refine ao_iload (pc := 1212) X dL_law_1212 rfl ?_
      refine ao_iconst (pc := 1214) X dL_law_1214 ic_1 ?_
      refine ao_iadd (pc := 1215) X dL_law_1215 ?_
      refine ao_bld (pc := 1216) X hX dL_law_1216 ?_
      refine ao_callVI (pc := 1217) (As := [.int (xs (ix (p4 + (1 : Int32))))]) (st := [.int r213]) X hl0 dL_law_1217 yv_X12_hopes so_122 ml_RL_173 (mX12_hopes_122 hI (xs (ix (p4 + (1 : Int32)))) m214) (Nat.le_of_ble_eq_true rfl) rfl rfl (Nat.le_of_ble_eq_true rfl) (fun r215 m216 => ?_)
      refine ao_icmp_eq (pc := 1220) (tgt := 1639) X dL_law_1220 (by decide) (fun _ => ?_) (fun _ => ?_)
      · refine ao_iinc (pc := 1639) (k := 4) (v := p4 + (5 : Int32)) (lv' := [(4, .int (p4 + (5 : Int32))), (0, .ref b), (1, .ref (eAd E 0)), (2, .ref (eAd E 122)), (3, .ref (eAd E 149))]) X dL_law_1639 rfl (ii_ic ic_5) (by decide) rfl ?_
        refine ao_goto (pc := 1642) (tgt := 23) X dL_law_1642 (by decide) ?_
        refine ao_sub [1, 2, 3, 4, 0] rfl ?_
        refine ao_bump ?_
        exact hk (p4 + (5 : Int32)) m216
      · refine ao_iconst (pc := 1223) X dL_law_1223 ic_0 ?_
        exact ao_none
    refine ao_ite (cd := x1 = (35 : Int32)) (fun c => ao_tabIn (pc := 39) (k := (35 : Int32)) (tgt := 1225) X dL_law_39 c (by decide) (by decide) rfl (by decide) ?_) (fun n218 => ?_)
    · refine ao_aload_n (pc := 1225) X dL_law_1225 rfl ?_
      refine ao_callVI (pc := 1226) (As := []) (st := []) X hl0 dL_law_1226 yv_X11_reading so_0 ml_RL_174 (mX11_reading_0 hI μ) (Nat.le_of_ble_eq_true rfl) rfl rfl (Nat.le_of_ble_eq_true rfl) (fun r219 m220 => ?_)
      refine ao_aload_n (pc := 1229) X dL_law_1229 rfl ?_
      refine ao_callVI (pc := 1230) (As := []) (st := [.int r219]) X hl0 dL_law_1230 yv_X12_reading so_122 ml_RL_177 (mX12_reading_122 hI m220) (Nat.le_of_ble_eq_true rfl) rfl rfl (Nat.le_of_ble_eq_true rfl) (fun r221 m222 => ?_)
      refine ao_icmp_eq (pc := 1233) (tgt := 1639) X dL_law_1233 (by decide) (fun _ => ?_) (fun _ => ?_)
      · refine ao_iinc (pc := 1639) (k := 4) (v := p4 + (5 : Int32)) (lv' := [(4, .int (p4 + (5 : Int32))), (0, .ref b), (1, .ref (eAd E 0)), (2, .ref (eAd E 122)), (3, .ref (eAd E 149))]) X dL_law_1639 rfl (ii_ic ic_5) (by decide) rfl ?_
        refine ao_goto (pc := 1642) (tgt := 23) X dL_law_1642 (by decide) ?_
        refine ao_sub [1, 2, 3, 4, 0] rfl ?_
        refine ao_bump ?_
        exact hk (p4 + (5 : Int32)) m222
      · refine ao_iconst (pc := 1236) X dL_law_1236 ic_0 ?_
        exact ao_none
    refine ao_ite (cd := x1 = (36 : Int32)) (fun c => ao_tabIn (pc := 39) (k := (36 : Int32)) (tgt := 1238) X dL_law_39 c (by decide) (by decide) rfl (by decide) ?_) (fun n224 => ?_)
    · refine ao_aload_n (pc := 1238) X dL_law_1238 rfl ?_
      refine ao_aload_n (pc := 1239) X dL_law_1239 rfl ?_
      refine ao_iload (pc := 1240) X dL_law_1240 rfl ?_
      refine ao_iconst (pc := 1242) X dL_law_1242 ic_1 ?_
      refine ao_iadd (pc := 1243) X dL_law_1243 ?_
      refine ao_bld (pc := 1244) X hX dL_law_1244 ?_
      refine ao_callVI (pc := 1245) (As := [.int (xs (ix (p4 + (1 : Int32))))]) (st := []) X hl0 dL_law_1245 yv_X11_wants so_0 ml_RL_178 (mX11_wants_0 hI (xs (ix (p4 + (1 : Int32)))) μ) (Nat.le_of_ble_eq_true rfl) rfl rfl (Nat.le_of_ble_eq_true rfl) (fun r225 m226 => ?_)
      refine ao_aload_n (pc := 1248) X dL_law_1248 rfl ?_
      refine ao_aload_n (pc := 1249) X dL_law_1249 rfl ?_
      refine ao_iload (pc := 1250) X dL_law_1250 rfl ?_
      refine ao_iconst (pc := 1252) X dL_law_1252 ic_1 ?_
      refine ao_iadd (pc := 1253) X dL_law_1253 ?_
      refine ao_bld (pc := 1254) X hX dL_law_1254 ?_
      refine ao_callVI (pc := 1255) (As := [.int (xs (ix (p4 + (1 : Int32))))]) (st := [.int r225]) X hl0 dL_law_1255 yv_X12_wants so_122 ml_RL_181 (mX12_wants_122 hI (xs (ix (p4 + (1 : Int32)))) m226) (Nat.le_of_ble_eq_true rfl) rfl rfl (Nat.le_of_ble_eq_true rfl) (fun r227 m228 => ?_)
      refine ao_icmp_eq (pc := 1258) (tgt := 1639) X dL_law_1258 (by decide) (fun _ => ?_) (fun _ => ?_)
      · refine ao_iinc (pc := 1639) (k := 4) (v := p4 + (5 : Int32)) (lv' := [(4, .int (p4 + (5 : Int32))), (0, .ref b), (1, .ref (eAd E 0)), (2, .ref (eAd E 122)), (3, .ref (eAd E 149))]) X dL_law_1639 rfl (ii_ic ic_5) (by decide) rfl ?_
        refine ao_goto (pc := 1642) (tgt := 23) X dL_law_1642 (by decide) ?_
        refine ao_sub [1, 2, 3, 4, 0] rfl ?_
        refine ao_bump ?_
        exact hk (p4 + (5 : Int32)) m228
      · refine ao_iconst (pc := 1261) X dL_law_1261 ic_0 ?_
        exact ao_none
    refine ao_ite (cd := x1 = (37 : Int32)) (fun c => ao_tabIn (pc := 39) (k := (37 : Int32)) (tgt := 1263) X dL_law_39 c (by decide) (by decide) rfl (by decide) ?_) (fun n230 => ?_)
    · refine ao_aload_n (pc := 1263) X dL_law_1263 rfl ?_
      refine ao_aload_n (pc := 1264) X dL_law_1264 rfl ?_
      refine ao_iload (pc := 1265) X dL_law_1265 rfl ?_
      refine ao_iconst (pc := 1267) X dL_law_1267 ic_1 ?_
      refine ao_iadd (pc := 1268) X dL_law_1268 ?_
      refine ao_bld (pc := 1269) X hX dL_law_1269 ?_
      refine ao_aload_n (pc := 1270) X dL_law_1270 rfl ?_
      refine ao_iload (pc := 1271) X dL_law_1271 rfl ?_
      refine ao_iconst (pc := 1273) X dL_law_1273 ic_2 ?_
      refine ao_iadd (pc := 1274) X dL_law_1274 ?_
      refine ao_bld (pc := 1275) X hX dL_law_1275 ?_
      refine ao_aload_n (pc := 1276) X dL_law_1276 rfl ?_
      refine ao_iload (pc := 1277) X dL_law_1277 rfl ?_
      refine ao_iconst (pc := 1279) X dL_law_1279 ic_3 ?_
      refine ao_iadd (pc := 1280) X dL_law_1280 ?_
      refine ao_bld (pc := 1281) X hX dL_law_1281 ?_
      refine ao_callVI (pc := 1282) (As := [.int (xs (ix (p4 + (1 : Int32)))), .int (xs (ix (p4 + (2 : Int32)))), .int (xs (ix (p4 + (3 : Int32))))]) (st := []) X hl0 dL_law_1282 yv_X11_dumb so_0 ml_RL_182 (mX11_dumb_0 hI (xs (ix (p4 + (1 : Int32)))) (xs (ix (p4 + (2 : Int32)))) (xs (ix (p4 + (3 : Int32)))) μ) (Nat.le_of_ble_eq_true rfl) rfl rfl (Nat.le_of_ble_eq_true rfl) (fun r231 m232 => ?_)
      refine ao_aload_n (pc := 1285) X dL_law_1285 rfl ?_
      refine ao_aload_n (pc := 1286) X dL_law_1286 rfl ?_
      refine ao_iload (pc := 1287) X dL_law_1287 rfl ?_
      refine ao_iconst (pc := 1289) X dL_law_1289 ic_1 ?_
      refine ao_iadd (pc := 1290) X dL_law_1290 ?_
      refine ao_bld (pc := 1291) X hX dL_law_1291 ?_
      refine ao_aload_n (pc := 1292) X dL_law_1292 rfl ?_
      refine ao_iload (pc := 1293) X dL_law_1293 rfl ?_
      refine ao_iconst (pc := 1295) X dL_law_1295 ic_2 ?_
      refine ao_iadd (pc := 1296) X dL_law_1296 ?_
      refine ao_bld (pc := 1297) X hX dL_law_1297 ?_
      refine ao_aload_n (pc := 1298) X dL_law_1298 rfl ?_
      refine ao_iload (pc := 1299) X dL_law_1299 rfl ?_
      refine ao_iconst (pc := 1301) X dL_law_1301 ic_3 ?_
      refine ao_iadd (pc := 1302) X dL_law_1302 ?_
      refine ao_bld (pc := 1303) X hX dL_law_1303 ?_
      refine ao_callVI (pc := 1304) (As := [.int (xs (ix (p4 + (1 : Int32)))), .int (xs (ix (p4 + (2 : Int32)))), .int (xs (ix (p4 + (3 : Int32))))]) (st := [.int r231]) X hl0 dL_law_1304 yv_X12_dumb so_122 ml_RL_186 (mX12_dumb_122 hI (xs (ix (p4 + (1 : Int32)))) (xs (ix (p4 + (2 : Int32)))) (xs (ix (p4 + (3 : Int32)))) m232) (Nat.le_of_ble_eq_true rfl) rfl rfl (Nat.le_of_ble_eq_true rfl) (fun r233 m234 => ?_)
      refine ao_icmp_eq (pc := 1307) (tgt := 1639) X dL_law_1307 (by decide) (fun _ => ?_) (fun _ => ?_)
      · refine ao_iinc (pc := 1639) (k := 4) (v := p4 + (5 : Int32)) (lv' := [(4, .int (p4 + (5 : Int32))), (0, .ref b), (1, .ref (eAd E 0)), (2, .ref (eAd E 122)), (3, .ref (eAd E 149))]) X dL_law_1639 rfl (ii_ic ic_5) (by decide) rfl ?_
        refine ao_goto (pc := 1642) (tgt := 23) X dL_law_1642 (by decide) ?_
        refine ao_sub [1, 2, 3, 4, 0] rfl ?_
        refine ao_bump ?_
        exact hk (p4 + (5 : Int32)) m234
      · refine ao_iconst (pc := 1310) X dL_law_1310 ic_0 ?_
        exact ao_none
    refine ao_ite (cd := x1 = (38 : Int32)) (fun c => ao_tabIn (pc := 39) (k := (38 : Int32)) (tgt := 1312) X dL_law_39 c (by decide) (by decide) rfl (by decide) ?_) (fun n236 => ?_)
    · refine ao_aload_n (pc := 1312) X dL_law_1312 rfl ?_
      refine ao_aload_n (pc := 1313) X dL_law_1313 rfl ?_
      refine ao_iload (pc := 1314) X dL_law_1314 rfl ?_
      refine ao_iconst (pc := 1316) X dL_law_1316 ic_1 ?_
      refine ao_iadd (pc := 1317) X dL_law_1317 ?_
      refine ao_bld (pc := 1318) X hX dL_law_1318 ?_
      refine ao_aload_n (pc := 1319) X dL_law_1319 rfl ?_
      refine ao_iload (pc := 1320) X dL_law_1320 rfl ?_
      refine ao_iconst (pc := 1322) X dL_law_1322 ic_2 ?_
      refine ao_iadd (pc := 1323) X dL_law_1323 ?_
      refine ao_bld (pc := 1324) X hX dL_law_1324 ?_
      refine ao_aload_n (pc := 1325) X dL_law_1325 rfl ?_
      refine ao_iload (pc := 1326) X dL_law_1326 rfl ?_
      refine ao_iconst (pc := 1328) X dL_law_1328 ic_3 ?_
      refine ao_iadd (pc := 1329) X dL_law_1329 ?_
      refine ao_bld (pc := 1330) X hX dL_law_1330 ?_
      refine ao_callVI (pc := 1331) (As := [.int (xs (ix (p4 + (1 : Int32)))), .int (xs (ix (p4 + (2 : Int32)))), .int (xs (ix (p4 + (3 : Int32))))]) (st := []) X hl0 dL_law_1331 yv_X11_sure so_0 ml_RL_187 (mX11_sure_0 hI (xs (ix (p4 + (1 : Int32)))) (xs (ix (p4 + (2 : Int32)))) (xs (ix (p4 + (3 : Int32)))) μ) (Nat.le_of_ble_eq_true rfl) rfl rfl (Nat.le_of_ble_eq_true rfl) (fun r237 m238 => ?_)
      refine ao_aload_n (pc := 1334) X dL_law_1334 rfl ?_
      refine ao_aload_n (pc := 1335) X dL_law_1335 rfl ?_
      refine ao_iload (pc := 1336) X dL_law_1336 rfl ?_
      refine ao_iconst (pc := 1338) X dL_law_1338 ic_1 ?_
      refine ao_iadd (pc := 1339) X dL_law_1339 ?_
      refine ao_bld (pc := 1340) X hX dL_law_1340 ?_
      refine ao_aload_n (pc := 1341) X dL_law_1341 rfl ?_
      refine ao_iload (pc := 1342) X dL_law_1342 rfl ?_
      refine ao_iconst (pc := 1344) X dL_law_1344 ic_2 ?_
      refine ao_iadd (pc := 1345) X dL_law_1345 ?_
      refine ao_bld (pc := 1346) X hX dL_law_1346 ?_
      refine ao_aload_n (pc := 1347) X dL_law_1347 rfl ?_
      refine ao_iload (pc := 1348) X dL_law_1348 rfl ?_
      refine ao_iconst (pc := 1350) X dL_law_1350 ic_3 ?_
      refine ao_iadd (pc := 1351) X dL_law_1351 ?_
      refine ao_bld (pc := 1352) X hX dL_law_1352 ?_
      refine ao_callVI (pc := 1353) (As := [.int (xs (ix (p4 + (1 : Int32)))), .int (xs (ix (p4 + (2 : Int32)))), .int (xs (ix (p4 + (3 : Int32))))]) (st := [.int r237]) X hl0 dL_law_1353 yv_X12_sure so_122 ml_RL_190 (mX12_sure_122 hI (xs (ix (p4 + (1 : Int32)))) (xs (ix (p4 + (2 : Int32)))) (xs (ix (p4 + (3 : Int32)))) m238) (Nat.le_of_ble_eq_true rfl) rfl rfl (Nat.le_of_ble_eq_true rfl) (fun r239 m240 => ?_)
      refine ao_icmp_eq (pc := 1356) (tgt := 1639) X dL_law_1356 (by decide) (fun _ => ?_) (fun _ => ?_)
      · refine ao_iinc (pc := 1639) (k := 4) (v := p4 + (5 : Int32)) (lv' := [(4, .int (p4 + (5 : Int32))), (0, .ref b), (1, .ref (eAd E 0)), (2, .ref (eAd E 122)), (3, .ref (eAd E 149))]) X dL_law_1639 rfl (ii_ic ic_5) (by decide) rfl ?_
        refine ao_goto (pc := 1642) (tgt := 23) X dL_law_1642 (by decide) ?_
        refine ao_sub [1, 2, 3, 4, 0] rfl ?_
        refine ao_bump ?_
        exact hk (p4 + (5 : Int32)) m240
      · refine ao_iconst (pc := 1359) X dL_law_1359 ic_0 ?_
        exact ao_none
    refine ao_ite (cd := x1 = (39 : Int32)) (fun c => ao_tabIn (pc := 39) (k := (39 : Int32)) (tgt := 1361) X dL_law_39 c (by decide) (by decide) rfl (by decide) ?_) (fun n242 => ?_)
    · refine ao_aload_n (pc := 1361) X dL_law_1361 rfl ?_
      refine ao_aload_n (pc := 1362) X dL_law_1362 rfl ?_
      refine ao_iload (pc := 1363) X dL_law_1363 rfl ?_
      refine ao_iconst (pc := 1365) X dL_law_1365 ic_1 ?_
      refine ao_iadd (pc := 1366) X dL_law_1366 ?_
      refine ao_bld (pc := 1367) X hX dL_law_1367 ?_
      refine ao_aload_n (pc := 1368) X dL_law_1368 rfl ?_
      refine ao_iload (pc := 1369) X dL_law_1369 rfl ?_
      refine ao_iconst (pc := 1371) X dL_law_1371 ic_2 ?_
      refine ao_iadd (pc := 1372) X dL_law_1372 ?_
      refine ao_bld (pc := 1373) X hX dL_law_1373 ?_
      refine ao_callVI (pc := 1374) (As := [.int (xs (ix (p4 + (1 : Int32)))), .int (xs (ix (p4 + (2 : Int32))))]) (st := []) X hl0 dL_law_1374 yv_X11_house so_0 ml_RL_191 (mX11_house_0 hI (xs (ix (p4 + (1 : Int32)))) (xs (ix (p4 + (2 : Int32)))) μ) (Nat.le_of_ble_eq_true rfl) rfl rfl (Nat.le_of_ble_eq_true rfl) (fun r243 m244 => ?_)
      refine ao_aload_n (pc := 1377) X dL_law_1377 rfl ?_
      refine ao_aload_n (pc := 1378) X dL_law_1378 rfl ?_
      refine ao_iload (pc := 1379) X dL_law_1379 rfl ?_
      refine ao_iconst (pc := 1381) X dL_law_1381 ic_1 ?_
      refine ao_iadd (pc := 1382) X dL_law_1382 ?_
      refine ao_bld (pc := 1383) X hX dL_law_1383 ?_
      refine ao_aload_n (pc := 1384) X dL_law_1384 rfl ?_
      refine ao_iload (pc := 1385) X dL_law_1385 rfl ?_
      refine ao_iconst (pc := 1387) X dL_law_1387 ic_2 ?_
      refine ao_iadd (pc := 1388) X dL_law_1388 ?_
      refine ao_bld (pc := 1389) X hX dL_law_1389 ?_
      refine ao_callVI (pc := 1390) (As := [.int (xs (ix (p4 + (1 : Int32)))), .int (xs (ix (p4 + (2 : Int32))))]) (st := [.int r243]) X hl0 dL_law_1390 yv_X12_house so_122 ml_RL_194 (mX12_house_122 hI (xs (ix (p4 + (1 : Int32)))) (xs (ix (p4 + (2 : Int32)))) m244) (Nat.le_of_ble_eq_true rfl) rfl rfl (Nat.le_of_ble_eq_true rfl) (fun r245 m246 => ?_)
      refine ao_icmp_eq (pc := 1393) (tgt := 1639) X dL_law_1393 (by decide) (fun _ => ?_) (fun _ => ?_)
      · refine ao_iinc (pc := 1639) (k := 4) (v := p4 + (5 : Int32)) (lv' := [(4, .int (p4 + (5 : Int32))), (0, .ref b), (1, .ref (eAd E 0)), (2, .ref (eAd E 122)), (3, .ref (eAd E 149))]) X dL_law_1639 rfl (ii_ic ic_5) (by decide) rfl ?_
        refine ao_goto (pc := 1642) (tgt := 23) X dL_law_1642 (by decide) ?_
        refine ao_sub [1, 2, 3, 4, 0] rfl ?_
        refine ao_bump ?_
        exact hk (p4 + (5 : Int32)) m246
      · refine ao_iconst (pc := 1396) X dL_law_1396 ic_0 ?_
        exact ao_none
    refine ao_ite (cd := x1 = (40 : Int32)) (fun c => ao_tabIn (pc := 39) (k := (40 : Int32)) (tgt := 1398) X dL_law_39 c (by decide) (by decide) rfl (by decide) ?_) (fun n248 => ?_)
    · refine ao_aload_n (pc := 1398) X dL_law_1398 rfl ?_
      refine ao_aload_n (pc := 1399) X dL_law_1399 rfl ?_
      refine ao_iload (pc := 1400) X dL_law_1400 rfl ?_
      refine ao_iconst (pc := 1402) X dL_law_1402 ic_1 ?_
      refine ao_iadd (pc := 1403) X dL_law_1403 ?_
      refine ao_bld (pc := 1404) X hX dL_law_1404 ?_
      refine ao_aload_n (pc := 1405) X dL_law_1405 rfl ?_
      refine ao_iload (pc := 1406) X dL_law_1406 rfl ?_
      refine ao_iconst (pc := 1408) X dL_law_1408 ic_2 ?_
      refine ao_iadd (pc := 1409) X dL_law_1409 ?_
      refine ao_bld (pc := 1410) X hX dL_law_1410 ?_
      refine ao_callVI (pc := 1411) (As := [.int (xs (ix (p4 + (1 : Int32)))), .int (xs (ix (p4 + (2 : Int32))))]) (st := []) X hl0 dL_law_1411 yv_X11_search so_0 ml_RL_195 (mX11_search_0 hI (xs (ix (p4 + (1 : Int32)))) (xs (ix (p4 + (2 : Int32)))) μ) (Nat.le_of_ble_eq_true rfl) rfl rfl (Nat.le_of_ble_eq_true rfl) (fun r249 m250 => ?_)
      refine ao_aload_n (pc := 1414) X dL_law_1414 rfl ?_
      refine ao_aload_n (pc := 1415) X dL_law_1415 rfl ?_
      refine ao_iload (pc := 1416) X dL_law_1416 rfl ?_
      refine ao_iconst (pc := 1418) X dL_law_1418 ic_1 ?_
      refine ao_iadd (pc := 1419) X dL_law_1419 ?_
      refine ao_bld (pc := 1420) X hX dL_law_1420 ?_
      refine ao_aload_n (pc := 1421) X dL_law_1421 rfl ?_
      refine ao_iload (pc := 1422) X dL_law_1422 rfl ?_
      refine ao_iconst (pc := 1424) X dL_law_1424 ic_2 ?_
      refine ao_iadd (pc := 1425) X dL_law_1425 ?_
      refine ao_bld (pc := 1426) X hX dL_law_1426 ?_
      refine ao_callVI (pc := 1427) (As := [.int (xs (ix (p4 + (1 : Int32)))), .int (xs (ix (p4 + (2 : Int32))))]) (st := [.int r249]) X hl0 dL_law_1427 yv_X12_search so_122 ml_RL_198 (mX12_search_122 hI (xs (ix (p4 + (1 : Int32)))) (xs (ix (p4 + (2 : Int32)))) m250) (Nat.le_of_ble_eq_true rfl) rfl rfl (Nat.le_of_ble_eq_true rfl) (fun r251 m252 => ?_)
      refine ao_icmp_eq (pc := 1430) (tgt := 1639) X dL_law_1430 (by decide) (fun _ => ?_) (fun _ => ?_)
      · refine ao_iinc (pc := 1639) (k := 4) (v := p4 + (5 : Int32)) (lv' := [(4, .int (p4 + (5 : Int32))), (0, .ref b), (1, .ref (eAd E 0)), (2, .ref (eAd E 122)), (3, .ref (eAd E 149))]) X dL_law_1639 rfl (ii_ic ic_5) (by decide) rfl ?_
        refine ao_goto (pc := 1642) (tgt := 23) X dL_law_1642 (by decide) ?_
        refine ao_sub [1, 2, 3, 4, 0] rfl ?_
        refine ao_bump ?_
        exact hk (p4 + (5 : Int32)) m252
      · refine ao_iconst (pc := 1433) X dL_law_1433 ic_0 ?_
        exact ao_none
    refine ao_ite (cd := x1 = (41 : Int32)) (fun c => ao_tabIn (pc := 39) (k := (41 : Int32)) (tgt := 1435) X dL_law_39 c (by decide) (by decide) rfl (by decide) ?_) (fun n254 => ?_)
    · refine ao_aload_n (pc := 1435) X dL_law_1435 rfl ?_
      refine ao_aload_n (pc := 1436) X dL_law_1436 rfl ?_
      refine ao_iload (pc := 1437) X dL_law_1437 rfl ?_
      refine ao_iconst (pc := 1439) X dL_law_1439 ic_1 ?_
      refine ao_iadd (pc := 1440) X dL_law_1440 ?_
      refine ao_bld (pc := 1441) X hX dL_law_1441 ?_
      refine ao_aload_n (pc := 1442) X dL_law_1442 rfl ?_
      refine ao_iload (pc := 1443) X dL_law_1443 rfl ?_
      refine ao_iconst (pc := 1445) X dL_law_1445 ic_2 ?_
      refine ao_iadd (pc := 1446) X dL_law_1446 ?_
      refine ao_bld (pc := 1447) X hX dL_law_1447 ?_
      refine ao_callVI (pc := 1448) (As := [.int (xs (ix (p4 + (1 : Int32)))), .int (xs (ix (p4 + (2 : Int32))))]) (st := []) X hl0 dL_law_1448 yv_X11_rests so_0 ml_RL_199 (mX11_rests_0 hI (xs (ix (p4 + (1 : Int32)))) (xs (ix (p4 + (2 : Int32)))) μ) (Nat.le_of_ble_eq_true rfl) rfl rfl (Nat.le_of_ble_eq_true rfl) (fun r255 m256 => ?_)
      refine ao_aload_n (pc := 1451) X dL_law_1451 rfl ?_
      refine ao_aload_n (pc := 1452) X dL_law_1452 rfl ?_
      refine ao_iload (pc := 1453) X dL_law_1453 rfl ?_
      refine ao_iconst (pc := 1455) X dL_law_1455 ic_1 ?_
      refine ao_iadd (pc := 1456) X dL_law_1456 ?_
      refine ao_bld (pc := 1457) X hX dL_law_1457 ?_
      refine ao_aload_n (pc := 1458) X dL_law_1458 rfl ?_
      refine ao_iload (pc := 1459) X dL_law_1459 rfl ?_
      refine ao_iconst (pc := 1461) X dL_law_1461 ic_2 ?_
      refine ao_iadd (pc := 1462) X dL_law_1462 ?_
      refine ao_bld (pc := 1463) X hX dL_law_1463 ?_
      refine ao_callVI (pc := 1464) (As := [.int (xs (ix (p4 + (1 : Int32)))), .int (xs (ix (p4 + (2 : Int32))))]) (st := [.int r255]) X hl0 dL_law_1464 yv_X12_rests so_122 ml_RL_202 (mX12_rests_122 hI (xs (ix (p4 + (1 : Int32)))) (xs (ix (p4 + (2 : Int32)))) m256) (Nat.le_of_ble_eq_true rfl) rfl rfl (Nat.le_of_ble_eq_true rfl) (fun r257 m258 => ?_)
      refine ao_icmp_eq (pc := 1467) (tgt := 1639) X dL_law_1467 (by decide) (fun _ => ?_) (fun _ => ?_)
      · refine ao_iinc (pc := 1639) (k := 4) (v := p4 + (5 : Int32)) (lv' := [(4, .int (p4 + (5 : Int32))), (0, .ref b), (1, .ref (eAd E 0)), (2, .ref (eAd E 122)), (3, .ref (eAd E 149))]) X dL_law_1639 rfl (ii_ic ic_5) (by decide) rfl ?_
        refine ao_goto (pc := 1642) (tgt := 23) X dL_law_1642 (by decide) ?_
        refine ao_sub [1, 2, 3, 4, 0] rfl ?_
        refine ao_bump ?_
        exact hk (p4 + (5 : Int32)) m258
      · refine ao_iconst (pc := 1470) X dL_law_1470 ic_0 ?_
        exact ao_none
    refine ao_ite (cd := x1 = (42 : Int32)) (fun c => ao_tabIn (pc := 39) (k := (42 : Int32)) (tgt := 1472) X dL_law_39 c (by decide) (by decide) rfl (by decide) ?_) (fun n260 => ?_)
    · refine ao_aload_n (pc := 1472) X dL_law_1472 rfl ?_
      refine ao_aload_n (pc := 1473) X dL_law_1473 rfl ?_
      refine ao_iload (pc := 1474) X dL_law_1474 rfl ?_
      refine ao_iconst (pc := 1476) X dL_law_1476 ic_1 ?_
      refine ao_iadd (pc := 1477) X dL_law_1477 ?_
      refine ao_bld (pc := 1478) X hX dL_law_1478 ?_
      refine ao_aload_n (pc := 1479) X dL_law_1479 rfl ?_
      refine ao_iload (pc := 1480) X dL_law_1480 rfl ?_
      refine ao_iconst (pc := 1482) X dL_law_1482 ic_2 ?_
      refine ao_iadd (pc := 1483) X dL_law_1483 ?_
      refine ao_bld (pc := 1484) X hX dL_law_1484 ?_
      refine ao_callVI (pc := 1485) (As := [.int (xs (ix (p4 + (1 : Int32)))), .int (xs (ix (p4 + (2 : Int32))))]) (st := []) X hl0 dL_law_1485 yv_X11_years so_0 ml_RL_203 (mX11_years_0 hI (xs (ix (p4 + (1 : Int32)))) (xs (ix (p4 + (2 : Int32)))) μ) (Nat.le_of_ble_eq_true rfl) rfl rfl (Nat.le_of_ble_eq_true rfl) (fun r261 m262 => ?_)
      refine ao_aload_n (pc := 1488) X dL_law_1488 rfl ?_
      refine ao_aload_n (pc := 1489) X dL_law_1489 rfl ?_
      refine ao_iload (pc := 1490) X dL_law_1490 rfl ?_
      refine ao_iconst (pc := 1492) X dL_law_1492 ic_1 ?_
      refine ao_iadd (pc := 1493) X dL_law_1493 ?_
      refine ao_bld (pc := 1494) X hX dL_law_1494 ?_
      refine ao_aload_n (pc := 1495) X dL_law_1495 rfl ?_
      refine ao_iload (pc := 1496) X dL_law_1496 rfl ?_
      refine ao_iconst (pc := 1498) X dL_law_1498 ic_2 ?_
      refine ao_iadd (pc := 1499) X dL_law_1499 ?_
      refine ao_bld (pc := 1500) X hX dL_law_1500 ?_
      refine ao_callVI (pc := 1501) (As := [.int (xs (ix (p4 + (1 : Int32)))), .int (xs (ix (p4 + (2 : Int32))))]) (st := [.int r261]) X hl0 dL_law_1501 yv_X12_years so_122 ml_RL_206 (mX12_years_122 hI (xs (ix (p4 + (1 : Int32)))) (xs (ix (p4 + (2 : Int32)))) m262) (Nat.le_of_ble_eq_true rfl) rfl rfl (Nat.le_of_ble_eq_true rfl) (fun r263 m264 => ?_)
      refine ao_icmp_eq (pc := 1504) (tgt := 1639) X dL_law_1504 (by decide) (fun _ => ?_) (fun _ => ?_)
      · refine ao_iinc (pc := 1639) (k := 4) (v := p4 + (5 : Int32)) (lv' := [(4, .int (p4 + (5 : Int32))), (0, .ref b), (1, .ref (eAd E 0)), (2, .ref (eAd E 122)), (3, .ref (eAd E 149))]) X dL_law_1639 rfl (ii_ic ic_5) (by decide) rfl ?_
        refine ao_goto (pc := 1642) (tgt := 23) X dL_law_1642 (by decide) ?_
        refine ao_sub [1, 2, 3, 4, 0] rfl ?_
        refine ao_bump ?_
        exact hk (p4 + (5 : Int32)) m264
      · refine ao_iconst (pc := 1507) X dL_law_1507 ic_0 ?_
        exact ao_none
    refine ao_ite (cd := x1 = (43 : Int32)) (fun c => ao_tabIn (pc := 39) (k := (43 : Int32)) (tgt := 1509) X dL_law_39 c (by decide) (by decide) rfl (by decide) ?_) (fun n266 => ?_)
    · refine ao_aload_n (pc := 1509) X dL_law_1509 rfl ?_
      refine ao_aload_n (pc := 1510) X dL_law_1510 rfl ?_
      refine ao_iload (pc := 1511) X dL_law_1511 rfl ?_
      refine ao_iconst (pc := 1513) X dL_law_1513 ic_1 ?_
      refine ao_iadd (pc := 1514) X dL_law_1514 ?_
      refine ao_bld (pc := 1515) X hX dL_law_1515 ?_
      refine ao_callVI (pc := 1516) (As := [.int (xs (ix (p4 + (1 : Int32))))]) (st := []) X hl0 dL_law_1516 yv_X11_keep so_0 ml_RL_207 (mX11_keep_0 hI (xs (ix (p4 + (1 : Int32)))) μ) (Nat.le_of_ble_eq_true rfl) rfl rfl (Nat.le_of_ble_eq_true rfl) (fun r267 m268 => ?_)
      refine ao_aload_n (pc := 1519) X dL_law_1519 rfl ?_
      refine ao_aload_n (pc := 1520) X dL_law_1520 rfl ?_
      refine ao_iload (pc := 1521) X dL_law_1521 rfl ?_
      refine ao_iconst (pc := 1523) X dL_law_1523 ic_1 ?_
      refine ao_iadd (pc := 1524) X dL_law_1524 ?_
      refine ao_bld (pc := 1525) X hX dL_law_1525 ?_
      refine ao_callVI (pc := 1526) (As := [.int (xs (ix (p4 + (1 : Int32))))]) (st := [.int r267]) X hl0 dL_law_1526 yv_X12_keep so_122 ml_RL_210 (mX12_keep_122 hI (xs (ix (p4 + (1 : Int32)))) m268) (Nat.le_of_ble_eq_true rfl) rfl rfl (Nat.le_of_ble_eq_true rfl) (fun r269 m270 => ?_)
      refine ao_icmp_eq (pc := 1529) (tgt := 1639) X dL_law_1529 (by decide) (fun _ => ?_) (fun _ => ?_)
      · refine ao_iinc (pc := 1639) (k := 4) (v := p4 + (5 : Int32)) (lv' := [(4, .int (p4 + (5 : Int32))), (0, .ref b), (1, .ref (eAd E 0)), (2, .ref (eAd E 122)), (3, .ref (eAd E 149))]) X dL_law_1639 rfl (ii_ic ic_5) (by decide) rfl ?_
        refine ao_goto (pc := 1642) (tgt := 23) X dL_law_1642 (by decide) ?_
        refine ao_sub [1, 2, 3, 4, 0] rfl ?_
        refine ao_bump ?_
        exact hk (p4 + (5 : Int32)) m270
      · refine ao_iconst (pc := 1532) X dL_law_1532 ic_0 ?_
        exact ao_none
    refine ao_ite (cd := x1 = (44 : Int32)) (fun c => ao_tabIn (pc := 39) (k := (44 : Int32)) (tgt := 1534) X dL_law_39 c (by decide) (by decide) rfl (by decide) ?_) (fun n272 => ?_)
    · refine ao_aload_n (pc := 1534) X dL_law_1534 rfl ?_
      refine ao_aload_n (pc := 1535) X dL_law_1535 rfl ?_
      refine ao_iload (pc := 1536) X dL_law_1536 rfl ?_
      refine ao_iconst (pc := 1538) X dL_law_1538 ic_1 ?_
      refine ao_iadd (pc := 1539) X dL_law_1539 ?_
      refine ao_bld (pc := 1540) X hX dL_law_1540 ?_
      refine ao_callVI (pc := 1541) (As := [.int (xs (ix (p4 + (1 : Int32))))]) (st := []) X hl0 dL_law_1541 yv_X11_again so_0 ml_RL_211 (mX11_again_0 hI (xs (ix (p4 + (1 : Int32)))) μ) (Nat.le_of_ble_eq_true rfl) rfl rfl (Nat.le_of_ble_eq_true rfl) (fun r273 m274 => ?_)
      refine ao_aload_n (pc := 1544) X dL_law_1544 rfl ?_
      refine ao_aload_n (pc := 1545) X dL_law_1545 rfl ?_
      refine ao_iload (pc := 1546) X dL_law_1546 rfl ?_
      refine ao_iconst (pc := 1548) X dL_law_1548 ic_1 ?_
      refine ao_iadd (pc := 1549) X dL_law_1549 ?_
      refine ao_bld (pc := 1550) X hX dL_law_1550 ?_
      refine ao_callVI (pc := 1551) (As := [.int (xs (ix (p4 + (1 : Int32))))]) (st := [.int r273]) X hl0 dL_law_1551 yv_X12_again so_122 ml_RL_214 (mX12_again_122 hI (xs (ix (p4 + (1 : Int32)))) m274) (Nat.le_of_ble_eq_true rfl) rfl rfl (Nat.le_of_ble_eq_true rfl) (fun r275 m276 => ?_)
      refine ao_icmp_eq (pc := 1554) (tgt := 1639) X dL_law_1554 (by decide) (fun _ => ?_) (fun _ => ?_)
      · refine ao_iinc (pc := 1639) (k := 4) (v := p4 + (5 : Int32)) (lv' := [(4, .int (p4 + (5 : Int32))), (0, .ref b), (1, .ref (eAd E 0)), (2, .ref (eAd E 122)), (3, .ref (eAd E 149))]) X dL_law_1639 rfl (ii_ic ic_5) (by decide) rfl ?_
        refine ao_goto (pc := 1642) (tgt := 23) X dL_law_1642 (by decide) ?_
        refine ao_sub [1, 2, 3, 4, 0] rfl ?_
        refine ao_bump ?_
        exact hk (p4 + (5 : Int32)) m276
      · refine ao_iconst (pc := 1557) X dL_law_1557 ic_0 ?_
        exact ao_none
    refine ao_ite (cd := x1 = (45 : Int32)) (fun c => ao_tabIn (pc := 39) (k := (45 : Int32)) (tgt := 1559) X dL_law_39 c (by decide) (by decide) rfl (by decide) ?_) (fun n278 => ?_)
    · refine ao_aload_n (pc := 1559) X dL_law_1559 rfl ?_
      refine ao_aload_n (pc := 1560) X dL_law_1560 rfl ?_
      refine ao_iload (pc := 1561) X dL_law_1561 rfl ?_
      refine ao_iconst (pc := 1563) X dL_law_1563 ic_1 ?_
      refine ao_iadd (pc := 1564) X dL_law_1564 ?_
      refine ao_bld (pc := 1565) X hX dL_law_1565 ?_
      refine ao_callVI (pc := 1566) (As := [.int (xs (ix (p4 + (1 : Int32))))]) (st := []) X hl0 dL_law_1566 yv_X11_count so_0 ml_RL_215 (mX11_count_0 hI (xs (ix (p4 + (1 : Int32)))) μ) (Nat.le_of_ble_eq_true rfl) rfl rfl (Nat.le_of_ble_eq_true rfl) (fun r279 m280 => ?_)
      refine ao_aload_n (pc := 1569) X dL_law_1569 rfl ?_
      refine ao_aload_n (pc := 1570) X dL_law_1570 rfl ?_
      refine ao_iload (pc := 1571) X dL_law_1571 rfl ?_
      refine ao_iconst (pc := 1573) X dL_law_1573 ic_1 ?_
      refine ao_iadd (pc := 1574) X dL_law_1574 ?_
      refine ao_bld (pc := 1575) X hX dL_law_1575 ?_
      refine ao_callVI (pc := 1576) (As := [.int (xs (ix (p4 + (1 : Int32))))]) (st := [.int r279]) X hl0 dL_law_1576 yv_X12_count so_122 ml_RL_218 (mX12_count_122 hI (xs (ix (p4 + (1 : Int32)))) m280) (Nat.le_of_ble_eq_true rfl) rfl rfl (Nat.le_of_ble_eq_true rfl) (fun r281 m282 => ?_)
      refine ao_icmp_eq (pc := 1579) (tgt := 1639) X dL_law_1579 (by decide) (fun _ => ?_) (fun _ => ?_)
      · refine ao_iinc (pc := 1639) (k := 4) (v := p4 + (5 : Int32)) (lv' := [(4, .int (p4 + (5 : Int32))), (0, .ref b), (1, .ref (eAd E 0)), (2, .ref (eAd E 122)), (3, .ref (eAd E 149))]) X dL_law_1639 rfl (ii_ic ic_5) (by decide) rfl ?_
        refine ao_goto (pc := 1642) (tgt := 23) X dL_law_1642 (by decide) ?_
        refine ao_sub [1, 2, 3, 4, 0] rfl ?_
        refine ao_bump ?_
        exact hk (p4 + (5 : Int32)) m282
      · refine ao_iconst (pc := 1582) X dL_law_1582 ic_0 ?_
        exact ao_none
    refine ao_ite (cd := x1 = (46 : Int32)) (fun c => ao_tabIn (pc := 39) (k := (46 : Int32)) (tgt := 1584) X dL_law_39 c (by decide) (by decide) rfl (by decide) ?_) (fun n284 => ?_)
    · refine ao_aload_n (pc := 1584) X dL_law_1584 rfl ?_
      refine ao_aload_n (pc := 1585) X dL_law_1585 rfl ?_
      refine ao_iload (pc := 1586) X dL_law_1586 rfl ?_
      refine ao_iconst (pc := 1588) X dL_law_1588 ic_1 ?_
      refine ao_iadd (pc := 1589) X dL_law_1589 ?_
      refine ao_bld (pc := 1590) X hX dL_law_1590 ?_
      refine ao_aload_n (pc := 1591) X dL_law_1591 rfl ?_
      refine ao_callH (pc := 1592) (As := [.ref (eAd E 0), .int (xs (ix (p4 + (1 : Int32)))), .ref (eAd E 149)]) (st := []) X hl0 hT hrm dL_law_1592 yw_row ml_RL_219 (kH_row hI hst (xs (ix (p4 + (1 : Int32)))) μ) (Nat.le_of_ble_eq_true rfl) rfl rfl (Nat.le_of_ble_eq_true rfl) (fun r285 m286 => ?_)
      have X := cx_bump X hrm
      have hl0 := lz_bump hl0
      have hX := zx_bump hX
      refine ao_istore (pc := 1595) (lv' := [(5, .int r285), (0, .ref b), (1, .ref (eAd E 0)), (2, .ref (eAd E 122)), (3, .ref (eAd E 149)), (4, .int p4)]) X dL_law_1595 (by decide) rfl ?_
      refine ao_aload_n (pc := 1597) X dL_law_1597 rfl ?_
      refine ao_aload_n (pc := 1598) X dL_law_1598 rfl ?_
      refine ao_iload (pc := 1599) X dL_law_1599 rfl ?_
      refine ao_iconst (pc := 1601) X dL_law_1601 ic_1 ?_
      refine ao_iadd (pc := 1602) X dL_law_1602 ?_
      refine ao_bld (pc := 1603) X hX dL_law_1603 ?_
      refine ao_callVL (pc := 1604) (As := [.int (xs (ix (p4 + (1 : Int32))))]) (st := []) X hl0 dL_law_1604 yv_X12_row so_122 ml_RL_222 (mX12_row_122 hI (xs (ix (p4 + (1 : Int32)))) m286) (Nat.le_of_ble_eq_true rfl) rfl rfl (Nat.le_of_ble_eq_true rfl) (fun r287 m288 => ?_)
      refine ao_lstore (pc := 1607) (lv' := [(6, .long r287), (5, .int r285), (0, .ref b), (1, .ref (eAd E 0)), (2, .ref (eAd E 122)), (3, .ref (eAd E 149)), (4, .int p4)]) X dL_law_1607 (by decide) rfl ?_
      refine ao_aload_n (pc := 1609) X dL_law_1609 rfl ?_
      refine ao_callVI (pc := 1610) (As := []) (st := []) X hl0 dL_law_1610 yv_X12_thrown so_122 ml_RL_63 (mX12_thrown_122 hI m288) (Nat.le_of_ble_eq_true rfl) rfl rfl (Nat.le_of_ble_eq_true rfl) (fun r289 m290 => ?_)
      refine ao_iload (pc := 1613) X dL_law_1613 rfl ?_
      refine ao_icmp_eq (pc := 1615) (tgt := 1620) X dL_law_1615 (by decide) (fun _ => ?_) (fun _ => ?_)
      · refine ao_iload (pc := 1620) X dL_law_1620 rfl ?_
        refine ao_if_ne (pc := 1622) (tgt := 1636) X dL_law_1622 (by decide) (fun _ => ?_) (fun _ => ?_)
        · refine ao_goto (pc := 1636) (tgt := 1639) X dL_law_1636 (by decide) ?_
          refine ao_iinc (pc := 1639) (k := 6) (v := p4 + (5 : Int32)) (lv' := [(4, .int (p4 + (5 : Int32))), (6, .long r287), (5, .int r285), (0, .ref b), (1, .ref (eAd E 0)), (2, .ref (eAd E 122)), (3, .ref (eAd E 149))]) X dL_law_1639 rfl (ii_ic ic_5) (by decide) rfl ?_
          refine ao_goto (pc := 1642) (tgt := 23) X dL_law_1642 (by decide) ?_
          refine ao_sub [3, 4, 5, 6, 0] rfl ?_
          exact hk (p4 + (5 : Int32)) m290
        · refine ao_aload_n (pc := 1625) X dL_law_1625 rfl ?_
          refine ao_iconst (pc := 1626) X dL_law_1626 ic_0 ?_
          refine ao_lald (pc := 1627) X dL_law_1627 sa_149 ?_
          refine ao_lload (pc := 1628) X dL_law_1628 rfl ?_
          refine ao_lcmp (pc := 1630) X dL_law_1630 ?_
          refine ao_if_eq (pc := 1631) (tgt := 1636) X dL_law_1631 (by decide) (fun _ => ?_) (fun _ => ?_)
          · refine ao_goto (pc := 1636) (tgt := 1639) X dL_law_1636 (by decide) ?_
            refine ao_iinc (pc := 1639) (k := 6) (v := p4 + (5 : Int32)) (lv' := [(4, .int (p4 + (5 : Int32))), (6, .long r287), (5, .int r285), (0, .ref b), (1, .ref (eAd E 0)), (2, .ref (eAd E 122)), (3, .ref (eAd E 149))]) X dL_law_1639 rfl (ii_ic ic_5) (by decide) rfl ?_
            refine ao_goto (pc := 1642) (tgt := 23) X dL_law_1642 (by decide) ?_
            refine ao_sub [3, 4, 5, 6, 0] rfl ?_
            exact hk (p4 + (5 : Int32)) m290
          · refine ao_iconst (pc := 1634) X dL_law_1634 ic_0 ?_
            exact ao_none
      · refine ao_iconst (pc := 1618) X dL_law_1618 ic_0 ?_
        exact ao_none
    refine ao_tabOut (pc := 39) (tgt := 1639) X dL_law_39 (by have := lv_neT (a := 0) n2 (by decide); have := lv_neT (a := 1) n8 (by decide); have := lv_neT (a := 2) n14 (by decide); have := lv_neT (a := 3) n20 (by decide); have := lv_neT (a := 4) n26 (by decide); have := lv_neT (a := 5) n32 (by decide); have := lv_neT (a := 6) n38 (by decide); have := lv_neT (a := 7) n44 (by decide); have := lv_neT (a := 8) n53 (by decide); have := lv_neT (a := 9) n62 (by decide); have := lv_neT (a := 10) n68 (by decide); have := lv_neT (a := 11) n74 (by decide); have := lv_neT (a := 12) n80 (by decide); have := lv_neT (a := 13) n86 (by decide); have := lv_neT (a := 14) n92 (by decide); have := lv_neT (a := 15) n98 (by decide); have := lv_neT (a := 16) n104 (by decide); have := lv_neT (a := 17) n110 (by decide); have := lv_neT (a := 18) n116 (by decide); have := lv_neT (a := 19) n122 (by decide); have := lv_neT (a := 20) n128 (by decide); have := lv_neT (a := 21) n134 (by decide); have := lv_neT (a := 22) n140 (by decide); have := lv_neT (a := 23) n146 (by decide); have := lv_neT (a := 24) n152 (by decide); have := lv_neT (a := 25) n158 (by decide); have := lv_neT (a := 26) n164 (by decide); have := lv_neT (a := 27) n170 (by decide); have := lv_neT (a := 28) n176 (by decide); have := lv_neT (a := 29) n182 (by decide); have := lv_neT (a := 30) n188 (by decide); have := lv_neT (a := 31) n194 (by decide); have := lv_neT (a := 32) n200 (by decide); have := lv_neT (a := 33) n206 (by decide); have := lv_neT (a := 34) n212 (by decide); have := lv_neT (a := 35) n218 (by decide); have := lv_neT (a := 36) n224 (by decide); have := lv_neT (a := 37) n230 (by decide); have := lv_neT (a := 38) n236 (by decide); have := lv_neT (a := 39) n242 (by decide); have := lv_neT (a := 40) n248 (by decide); have := lv_neT (a := 41) n254 (by decide); have := lv_neT (a := 42) n260 (by decide); have := lv_neT (a := 43) n266 (by decide); have := lv_neT (a := 44) n272 (by decide); have := lv_neT (a := 45) n278 (by decide); have := lv_neT (a := 46) n284 (by decide); omega) (by decide) ?_
    refine ao_iinc (pc := 1639) (k := 4) (v := p4 + (5 : Int32)) (lv' := [(4, .int (p4 + (5 : Int32))), (0, .ref b), (1, .ref (eAd E 0)), (2, .ref (eAd E 122)), (3, .ref (eAd E 149))]) X dL_law_1639 rfl (ii_ic ic_5) (by decide) rfl ?_
    refine ao_goto (pc := 1642) (tgt := 23) X dL_law_1642 (by decide) ?_
    refine ao_sub [1, 2, 3, 4, 0] rfl ?_
    refine ao_bump ?_
    exact hk (p4 + (5 : Int32)) μ
