theorem awT1 {w : Cond} (i : Nat) (h : tables_1_1[i]? = some w) (g : goodWord w = true) : w ∈ AW_ := aw (List.mem_append_right _ (List.mem_append_left _ (List.mem_of_getElem? h))) g
theorem awT2 {w : Cond} (i : Nat) (h : tables_1_2[i]? = some w) (g : goodWord w = true) : w ∈ AW_ := aw (List.mem_append_right _ (List.mem_append_right _ (List.mem_append_left _ (List.mem_of_getElem? h)))) g
theorem awT3 {w : Cond} (i : Nat) (h : tables_1_3[i]? = some w) (g : goodWord w = true) : w ∈ AW_ := aw (List.mem_append_right _ (List.mem_append_right _ (List.mem_append_right _ (List.mem_append_left _ (List.mem_of_getElem? h))))) g
theorem awT4 {w : Cond} (i : Nat) (h : tables_1_4[i]? = some w) (g : goodWord w = true) : w ∈ AW_ := aw (List.mem_append_right _ (List.mem_append_right _ (List.mem_append_right _ (List.mem_append_right _ (List.mem_of_getElem? h))))) g
theorem in0 : Cond.initialized (RN 0) ∈ AW_ := awT1 2 rfl rfl
theorem in1 : Cond.initialized (RN 1) ∈ AW_ := awT1 3 rfl rfl
theorem in2 : Cond.initialized (RN 2) ∈ AW_ := awT1 5 rfl rfl
theorem in3 : Cond.initialized (RN 3) ∈ AW_ := awT1 4 rfl rfl
theorem in4 : Cond.initialized (RN 4) ∈ AW_ := awT1 1 rfl rfl
theorem in5 : Cond.initialized (RN 5) ∈ AW_ := awT1 6 rfl rfl
theorem in6 : Cond.initialized (RN 6) ∈ AW_ := awT1 0 rfl rfl
theorem in7 : Cond.initialized (RN 7) ∈ AW_ := awT1 12 rfl rfl
theorem inE0 : Cond.initialized (EX 0) ∈ AW_ := awT1 10 rfl rfl
theorem inE1 : Cond.initialized (EX 1) ∈ AW_ := awT1 11 rfl rfl
theorem inE2 : Cond.initialized (EX 2) ∈ AW_ := awT1 15 rfl rfl
theorem inMath : Cond.initialized "java/lang/Math" ∈ AW_ := awT1 13 rfl rfl
theorem inSys : Cond.initialized "java/lang/System" ∈ AW_ := awT1 14 rfl rfl
theorem co0 : Cond.code (yn 0) (cc 0) (mL 0) (rt 0) ∈ AW_ := awT1 20 rfl rfl
theorem mk0 : MK 0 := ⟨in4, by decide +kernel, ⟨by decide +kernel, by decide +kernel⟩, by decide +kernel, by decide, Or.inl ⟨rfl, co0⟩⟩
theorem im0 : Cond.instanceMethod (yn 0) ∈ AW_ := awT1 19 rfl rfl
theorem co1 : Cond.code (yn 1) (cc 1) (mL 1) (rt 1) ∈ AW_ := awT1 30 rfl rfl
theorem mk1 : MK 1 := ⟨in0, by decide +kernel, ⟨by decide +kernel, by decide +kernel⟩, by decide +kernel, by decide, Or.inl ⟨rfl, co1⟩⟩
theorem im1 : Cond.instanceMethod (yn 1) ∈ AW_ := awT1 29 rfl rfl
theorem co2 : Cond.code (yn 2) (cc 2) (mL 2) (rt 2) ∈ AW_ := awT1 61 rfl rfl
theorem mk2 : MK 2 := ⟨in1, by decide +kernel, ⟨by decide +kernel, by decide +kernel⟩, by decide +kernel, by decide, Or.inl ⟨rfl, co2⟩⟩
theorem im2 : Cond.instanceMethod (yn 2) ∈ AW_ := awT1 60 rfl rfl
theorem co3 : Cond.code (yn 3) (cc 3) (mL 3) (rt 3) ∈ AW_ := awT1 84 rfl rfl
theorem mk3 : MK 3 := ⟨in3, by decide +kernel, ⟨by decide +kernel, by decide +kernel⟩, by decide +kernel, by decide, Or.inl ⟨rfl, co3⟩⟩
theorem im3 : Cond.instanceMethod (yn 3) ∈ AW_ := awT1 83 rfl rfl
theorem co4 : Cond.code (yn 4) (cc 4) (mL 4) (rt 4) ∈ AW_ := awT1 103 rfl rfl
theorem mk4 : MK 4 := ⟨in2, by decide +kernel, ⟨by decide +kernel, by decide +kernel⟩, by decide +kernel, by decide, Or.inl ⟨rfl, co4⟩⟩
theorem im4 : Cond.instanceMethod (yn 4) ∈ AW_ := awT1 102 rfl rfl
theorem co5 : Cond.code (yn 5) (cc 5) (mL 5) (rt 5) ∈ AW_ := awT1 193 rfl rfl
theorem mk5 : MK 5 := ⟨in4, by decide +kernel, ⟨by decide +kernel, by decide +kernel⟩, by decide +kernel, by decide, Or.inl ⟨rfl, co5⟩⟩
theorem im5 : Cond.instanceMethod (yn 5) ∈ AW_ := awT1 191 rfl rfl
theorem se5 : Cond.selects (RN (mo 5)) (yn 5) (yn 5) ∈ AW_ := awT1 192 rfl rfl
theorem co6 : Cond.code (yn 6) (cc 6) (mL 6) (rt 6) ∈ AW_ := awT1 197 rfl rfl
theorem mk6 : MK 6 := ⟨in4, by decide +kernel, ⟨by decide +kernel, by decide +kernel⟩, by decide +kernel, by decide, Or.inl ⟨rfl, co6⟩⟩
theorem im6 : Cond.instanceMethod (yn 6) ∈ AW_ := awT1 196 rfl rfl
theorem se6 : Cond.selects (RN (mo 6)) (yn 6) (yn 6) ∈ AW_ := awP 0 rfl rfl
theorem co7 : Cond.code (yn 7) (cc 7) (mL 7) (rt 7) ∈ AW_ := awT1 201 rfl rfl
theorem mk7 : MK 7 := ⟨in4, by decide +kernel, ⟨by decide +kernel, by decide +kernel⟩, by decide +kernel, by decide, Or.inl ⟨rfl, co7⟩⟩
theorem im7 : Cond.instanceMethod (yn 7) ∈ AW_ := awT1 200 rfl rfl
theorem se7 : Cond.selects (RN (mo 7)) (yn 7) (yn 7) ∈ AW_ := awP 1 rfl rfl
theorem co8 : Cond.code (yn 8) (cc 8) (mL 8) (rt 8) ∈ AW_ := awT1 204 rfl rfl
theorem mk8 : MK 8 := ⟨in7, by decide +kernel, ⟨by decide +kernel, by decide +kernel⟩, by decide +kernel, by decide, Or.inl ⟨rfl, co8⟩⟩
theorem ss8 : Cond.static (yn 8) ∈ AW_ := awT1 203 rfl rfl
theorem co9 : Cond.code (yn 9) (cc 9) (mL 9) (rt 9) ∈ AW_ := awT1 208 rfl rfl
theorem mk9 : MK 9 := ⟨in1, by decide +kernel, ⟨by decide +kernel, by decide +kernel⟩, by decide +kernel, by decide, Or.inl ⟨rfl, co9⟩⟩
theorem im9 : Cond.instanceMethod (yn 9) ∈ AW_ := awT1 206 rfl rfl
theorem se9 : Cond.selects (RN (mo 9)) (yn 9) (yn 9) ∈ AW_ := awT1 207 rfl rfl
theorem co10 : Cond.code (yn 10) (cc 10) (mL 10) (rt 10) ∈ AW_ := awT1 212 rfl rfl
theorem mk10 : MK 10 := ⟨in4, by decide +kernel, ⟨by decide +kernel, by decide +kernel⟩, by decide +kernel, by decide, Or.inl ⟨rfl, co10⟩⟩
theorem im10 : Cond.instanceMethod (yn 10) ∈ AW_ := awT1 211 rfl rfl
theorem se10 : Cond.selects (RN (mo 10)) (yn 10) (yn 10) ∈ AW_ := awP 2 rfl rfl
theorem co11 : Cond.code (yn 11) (cc 11) (mL 11) (rt 11) ∈ AW_ := awT1 215 rfl rfl
theorem mk11 : MK 11 := ⟨in0, by decide +kernel, ⟨by decide +kernel, by decide +kernel⟩, by decide +kernel, by decide, Or.inl ⟨rfl, co11⟩⟩
theorem ss11 : Cond.static (yn 11) ∈ AW_ := awT1 214 rfl rfl
theorem co12 : Cond.code (yn 12) (cc 12) (mL 12) (rt 12) ∈ AW_ := awT1 219 rfl rfl
theorem mk12 : MK 12 := ⟨in2, by decide +kernel, ⟨by decide +kernel, by decide +kernel⟩, by decide +kernel, by decide, Or.inl ⟨rfl, co12⟩⟩
theorem im12 : Cond.instanceMethod (yn 12) ∈ AW_ := awT1 217 rfl rfl
theorem se12 : Cond.selects (RN (mo 12)) (yn 12) (yn 12) ∈ AW_ := awT1 218 rfl rfl
theorem co13 : Cond.code (yn 13) (cc 13) (mL 13) (rt 13) ∈ AW_ := awT1 223 rfl rfl
theorem mk13 : MK 13 := ⟨in2, by decide +kernel, ⟨by decide +kernel, by decide +kernel⟩, by decide +kernel, by decide, Or.inl ⟨rfl, co13⟩⟩
theorem im13 : Cond.instanceMethod (yn 13) ∈ AW_ := awT1 221 rfl rfl
theorem se13 : Cond.selects (RN (mo 13)) (yn 13) (yn 13) ∈ AW_ := awT1 222 rfl rfl
theorem co14 : Cond.code (yn 14) (cc 14) (mL 14) (rt 14) ∈ AW_ := awT1 229 rfl rfl
theorem mk14 : MK 14 := ⟨in2, by decide +kernel, ⟨by decide +kernel, by decide +kernel⟩, by decide +kernel, by decide, Or.inl ⟨rfl, co14⟩⟩
theorem im14 : Cond.instanceMethod (yn 14) ∈ AW_ := awT1 227 rfl rfl
theorem se14 : Cond.selects (RN (mo 14)) (yn 14) (yn 14) ∈ AW_ := awT1 228 rfl rfl
theorem co15 : Cond.code (yn 15) (cc 15) (mL 15) (rt 15) ∈ AW_ := awT1 236 rfl rfl
theorem mk15 : MK 15 := ⟨in3, by decide +kernel, ⟨by decide +kernel, by decide +kernel⟩, by decide +kernel, by decide, Or.inl ⟨rfl, co15⟩⟩
theorem im15 : Cond.instanceMethod (yn 15) ∈ AW_ := awT1 234 rfl rfl
theorem se15 : Cond.selects (RN (mo 15)) (yn 15) (yn 15) ∈ AW_ := awT1 235 rfl rfl
theorem co16 : Cond.code (yn 16) (cc 16) (mL 16) (rt 16) ∈ AW_ := awT2 0 rfl rfl
theorem mk16 : MK 16 := ⟨in3, by decide +kernel, ⟨by decide +kernel, by decide +kernel⟩, by decide +kernel, by decide, Or.inl ⟨rfl, co16⟩⟩
theorem im16 : Cond.instanceMethod (yn 16) ∈ AW_ := awT1 239 rfl rfl
theorem se16 : Cond.selects (RN (mo 16)) (yn 16) (yn 16) ∈ AW_ := awP 3 rfl rfl
theorem co17 : Cond.code (yn 17) (cc 17) (mL 17) (rt 17) ∈ AW_ := awT2 7 rfl rfl
theorem mk17 : MK 17 := ⟨in3, by decide +kernel, ⟨by decide +kernel, by decide +kernel⟩, by decide +kernel, by decide, Or.inl ⟨rfl, co17⟩⟩
theorem im17 : Cond.instanceMethod (yn 17) ∈ AW_ := awT2 6 rfl rfl
theorem se17 : Cond.selects (RN (mo 17)) (yn 17) (yn 17) ∈ AW_ := awP 4 rfl rfl
theorem co18 : Cond.code (yn 18) (cc 18) (mL 18) (rt 18) ∈ AW_ := awT2 11 rfl rfl
theorem mk18 : MK 18 := ⟨in3, by decide +kernel, ⟨by decide +kernel, by decide +kernel⟩, by decide +kernel, by decide, Or.inl ⟨rfl, co18⟩⟩
theorem im18 : Cond.instanceMethod (yn 18) ∈ AW_ := awT2 10 rfl rfl
theorem se18 : Cond.selects (RN (mo 18)) (yn 18) (yn 18) ∈ AW_ := awP 5 rfl rfl
theorem co19 : Cond.code (yn 19) (cc 19) (mL 19) (rt 19) ∈ AW_ := awT2 15 rfl rfl
theorem mk19 : MK 19 := ⟨in3, by decide +kernel, ⟨by decide +kernel, by decide +kernel⟩, by decide +kernel, by decide, Or.inl ⟨rfl, co19⟩⟩
theorem im19 : Cond.instanceMethod (yn 19) ∈ AW_ := awT2 14 rfl rfl
theorem se19 : Cond.selects (RN (mo 19)) (yn 19) (yn 19) ∈ AW_ := awP 6 rfl rfl
theorem co20 : Cond.code (yn 20) (cc 20) (mL 20) (rt 20) ∈ AW_ := awT2 19 rfl rfl
theorem mk20 : MK 20 := ⟨in3, by decide +kernel, ⟨by decide +kernel, by decide +kernel⟩, by decide +kernel, by decide, Or.inl ⟨rfl, co20⟩⟩
theorem im20 : Cond.instanceMethod (yn 20) ∈ AW_ := awT2 18 rfl rfl
theorem se20 : Cond.selects (RN (mo 20)) (yn 20) (yn 20) ∈ AW_ := awP 7 rfl rfl
theorem co21 : Cond.code (yn 21) (cc 21) (mL 21) (rt 21) ∈ AW_ := awT2 22 rfl rfl
theorem mk21 : MK 21 := ⟨in3, by decide +kernel, ⟨by decide +kernel, by decide +kernel⟩, by decide +kernel, by decide, Or.inl ⟨rfl, co21⟩⟩
theorem ss21 : Cond.static (yn 21) ∈ AW_ := awT2 21 rfl rfl
theorem co22 : Cond.codeWith (yn 22) (cc 22) (mL 22) (rt 22) (hh 22) ∈ AW_ := awT2 28 rfl rfl
theorem mk22 : MK 22 := ⟨in6, by decide +kernel, ⟨by decide +kernel, by decide +kernel⟩, by decide +kernel, by decide, Or.inr co22⟩
theorem ss22 : Cond.static (yn 22) ∈ AW_ := awT2 27 rfl rfl
theorem co23 : Cond.code (yn 23) (cc 23) (mL 23) (rt 23) ∈ AW_ := awT2 34 rfl rfl
theorem mk23 : MK 23 := ⟨in4, by decide +kernel, ⟨by decide +kernel, by decide +kernel⟩, by decide +kernel, by decide, Or.inl ⟨rfl, co23⟩⟩
theorem im23 : Cond.instanceMethod (yn 23) ∈ AW_ := awT2 32 rfl rfl
theorem se23 : Cond.selects (RN (mo 23)) (yn 23) (yn 23) ∈ AW_ := awT2 33 rfl rfl
theorem co24 : Cond.code (yn 24) (cc 24) (mL 24) (rt 24) ∈ AW_ := awT2 38 rfl rfl
theorem mk24 : MK 24 := ⟨in4, by decide +kernel, ⟨by decide +kernel, by decide +kernel⟩, by decide +kernel, by decide, Or.inl ⟨rfl, co24⟩⟩
theorem im24 : Cond.instanceMethod (yn 24) ∈ AW_ := awT2 37 rfl rfl
theorem se24 : Cond.selects (RN (mo 24)) (yn 24) (yn 24) ∈ AW_ := awP 8 rfl rfl
theorem co25 : Cond.code (yn 25) (cc 25) (mL 25) (rt 25) ∈ AW_ := awT2 41 rfl rfl
theorem mk25 : MK 25 := ⟨in4, by decide +kernel, ⟨by decide +kernel, by decide +kernel⟩, by decide +kernel, by decide, Or.inl ⟨rfl, co25⟩⟩
theorem ss25 : Cond.static (yn 25) ∈ AW_ := awT2 40 rfl rfl
theorem co26 : Cond.code (yn 26) (cc 26) (mL 26) (rt 26) ∈ AW_ := awT2 112 rfl rfl
theorem mk26 : MK 26 := ⟨in4, by decide +kernel, ⟨by decide +kernel, by decide +kernel⟩, by decide +kernel, by decide, Or.inl ⟨rfl, co26⟩⟩
theorem ss26 : Cond.static (yn 26) ∈ AW_ := awT2 111 rfl rfl
theorem co27 : Cond.codeWith (yn 27) (cc 27) (mL 27) (rt 27) (hh 27) ∈ AW_ := awT2 131 rfl rfl
theorem mk27 : MK 27 := ⟨in6, by decide +kernel, ⟨by decide +kernel, by decide +kernel⟩, by decide +kernel, by decide, Or.inr co27⟩
theorem ss27 : Cond.static (yn 27) ∈ AW_ := awT2 130 rfl rfl
theorem co28 : Cond.code (yn 28) (cc 28) (mL 28) (rt 28) ∈ AW_ := awT2 135 rfl rfl
theorem mk28 : MK 28 := ⟨in4, by decide +kernel, ⟨by decide +kernel, by decide +kernel⟩, by decide +kernel, by decide, Or.inl ⟨rfl, co28⟩⟩
theorem im28 : Cond.instanceMethod (yn 28) ∈ AW_ := awT2 133 rfl rfl
theorem se28 : Cond.selects (RN (mo 28)) (yn 28) (yn 28) ∈ AW_ := awT2 134 rfl rfl
theorem co29 : Cond.codeWith (yn 29) (cc 29) (mL 29) (rt 29) (hh 29) ∈ AW_ := awT2 139 rfl rfl
theorem mk29 : MK 29 := ⟨in6, by decide +kernel, ⟨by decide +kernel, by decide +kernel⟩, by decide +kernel, by decide, Or.inr co29⟩
theorem ss29 : Cond.static (yn 29) ∈ AW_ := awT2 138 rfl rfl
theorem co30 : Cond.code (yn 30) (cc 30) (mL 30) (rt 30) ∈ AW_ := awT2 143 rfl rfl
theorem mk30 : MK 30 := ⟨in4, by decide +kernel, ⟨by decide +kernel, by decide +kernel⟩, by decide +kernel, by decide, Or.inl ⟨rfl, co30⟩⟩
theorem im30 : Cond.instanceMethod (yn 30) ∈ AW_ := awT2 141 rfl rfl
theorem se30 : Cond.selects (RN (mo 30)) (yn 30) (yn 30) ∈ AW_ := awT2 142 rfl rfl
theorem co31 : Cond.code (yn 31) (cc 31) (mL 31) (rt 31) ∈ AW_ := awT2 146 rfl rfl
theorem mk31 : MK 31 := ⟨in4, by decide +kernel, ⟨by decide +kernel, by decide +kernel⟩, by decide +kernel, by decide, Or.inl ⟨rfl, co31⟩⟩
theorem ss31 : Cond.static (yn 31) ∈ AW_ := awT2 145 rfl rfl
theorem co32 : Cond.codeWith (yn 32) (cc 32) (mL 32) (rt 32) (hh 32) ∈ AW_ := awT2 150 rfl rfl
theorem mk32 : MK 32 := ⟨in6, by decide +kernel, ⟨by decide +kernel, by decide +kernel⟩, by decide +kernel, by decide, Or.inr co32⟩
theorem ss32 : Cond.static (yn 32) ∈ AW_ := awT2 149 rfl rfl
theorem co33 : Cond.code (yn 33) (cc 33) (mL 33) (rt 33) ∈ AW_ := awT2 155 rfl rfl
theorem mk33 : MK 33 := ⟨in4, by decide +kernel, ⟨by decide +kernel, by decide +kernel⟩, by decide +kernel, by decide, Or.inl ⟨rfl, co33⟩⟩
theorem im33 : Cond.instanceMethod (yn 33) ∈ AW_ := awT2 153 rfl rfl
theorem se33 : Cond.selects (RN (mo 33)) (yn 33) (yn 33) ∈ AW_ := awT2 154 rfl rfl
theorem co34 : Cond.code (yn 34) (cc 34) (mL 34) (rt 34) ∈ AW_ := awT2 159 rfl rfl
theorem mk34 : MK 34 := ⟨in0, by decide +kernel, ⟨by decide +kernel, by decide +kernel⟩, by decide +kernel, by decide, Or.inl ⟨rfl, co34⟩⟩
theorem im34 : Cond.instanceMethod (yn 34) ∈ AW_ := awT2 157 rfl rfl
theorem se34 : Cond.selects (RN (mo 34)) (yn 34) (yn 34) ∈ AW_ := awT2 158 rfl rfl
theorem co35 : Cond.code (yn 35) (cc 35) (mL 35) (rt 35) ∈ AW_ := awT2 163 rfl rfl
theorem mk35 : MK 35 := ⟨in0, by decide +kernel, ⟨by decide +kernel, by decide +kernel⟩, by decide +kernel, by decide, Or.inl ⟨rfl, co35⟩⟩
theorem im35 : Cond.instanceMethod (yn 35) ∈ AW_ := awT2 162 rfl rfl
theorem se35 : Cond.selects (RN (mo 35)) (yn 35) (yn 35) ∈ AW_ := awP 10 rfl rfl
theorem co36 : Cond.code (yn 36) (cc 36) (mL 36) (rt 36) ∈ AW_ := awT2 167 rfl rfl
theorem mk36 : MK 36 := ⟨in0, by decide +kernel, ⟨by decide +kernel, by decide +kernel⟩, by decide +kernel, by decide, Or.inl ⟨rfl, co36⟩⟩
theorem im36 : Cond.instanceMethod (yn 36) ∈ AW_ := awT2 166 rfl rfl
theorem se36 : Cond.selects (RN (mo 36)) (yn 36) (yn 36) ∈ AW_ := awP 11 rfl rfl
theorem co37 : Cond.code (yn 37) (cc 37) (mL 37) (rt 37) ∈ AW_ := awT2 170 rfl rfl
theorem mk37 : MK 37 := ⟨in7, by decide +kernel, ⟨by decide +kernel, by decide +kernel⟩, by decide +kernel, by decide, Or.inl ⟨rfl, co37⟩⟩
theorem ss37 : Cond.static (yn 37) ∈ AW_ := awT2 169 rfl rfl
theorem co38 : Cond.code (yn 38) (cc 38) (mL 38) (rt 38) ∈ AW_ := awT2 179 rfl rfl
theorem mk38 : MK 38 := ⟨in0, by decide +kernel, ⟨by decide +kernel, by decide +kernel⟩, by decide +kernel, by decide, Or.inl ⟨rfl, co38⟩⟩
theorem im38 : Cond.instanceMethod (yn 38) ∈ AW_ := awT2 177 rfl rfl
theorem se38 : Cond.selects (RN (mo 38)) (yn 38) (yn 38) ∈ AW_ := awT2 178 rfl rfl
theorem co39 : Cond.code (yn 39) (cc 39) (mL 39) (rt 39) ∈ AW_ := awT2 199 rfl rfl
theorem mk39 : MK 39 := ⟨in0, by decide +kernel, ⟨by decide +kernel, by decide +kernel⟩, by decide +kernel, by decide, Or.inl ⟨rfl, co39⟩⟩
theorem im39 : Cond.instanceMethod (yn 39) ∈ AW_ := awT2 197 rfl rfl
theorem se39 : Cond.selects (RN (mo 39)) (yn 39) (yn 39) ∈ AW_ := awT2 198 rfl rfl
theorem co40 : Cond.codeWith (yn 40) (cc 40) (mL 40) (rt 40) (hh 40) ∈ AW_ := awT2 202 rfl rfl
theorem mk40 : MK 40 := ⟨in6, by decide +kernel, ⟨by decide +kernel, by decide +kernel⟩, by decide +kernel, by decide, Or.inr co40⟩
theorem ss40 : Cond.static (yn 40) ∈ AW_ := awT2 201 rfl rfl
theorem co41 : Cond.code (yn 41) (cc 41) (mL 41) (rt 41) ∈ AW_ := awT2 206 rfl rfl
theorem mk41 : MK 41 := ⟨in4, by decide +kernel, ⟨by decide +kernel, by decide +kernel⟩, by decide +kernel, by decide, Or.inl ⟨rfl, co41⟩⟩
theorem im41 : Cond.instanceMethod (yn 41) ∈ AW_ := awT2 204 rfl rfl
theorem se41 : Cond.selects (RN (mo 41)) (yn 41) (yn 41) ∈ AW_ := awT2 205 rfl rfl
theorem co42 : Cond.codeWith (yn 42) (cc 42) (mL 42) (rt 42) (hh 42) ∈ AW_ := awT2 209 rfl rfl
theorem mk42 : MK 42 := ⟨in6, by decide +kernel, ⟨by decide +kernel, by decide +kernel⟩, by decide +kernel, by decide, Or.inr co42⟩
theorem ss42 : Cond.static (yn 42) ∈ AW_ := awT2 208 rfl rfl
theorem co43 : Cond.code (yn 43) (cc 43) (mL 43) (rt 43) ∈ AW_ := awT2 213 rfl rfl
theorem mk43 : MK 43 := ⟨in4, by decide +kernel, ⟨by decide +kernel, by decide +kernel⟩, by decide +kernel, by decide, Or.inl ⟨rfl, co43⟩⟩
theorem im43 : Cond.instanceMethod (yn 43) ∈ AW_ := awT2 211 rfl rfl
theorem se43 : Cond.selects (RN (mo 43)) (yn 43) (yn 43) ∈ AW_ := awT2 212 rfl rfl
theorem co44 : Cond.code (yn 44) (cc 44) (mL 44) (rt 44) ∈ AW_ := awT2 217 rfl rfl
theorem mk44 : MK 44 := ⟨in4, by decide +kernel, ⟨by decide +kernel, by decide +kernel⟩, by decide +kernel, by decide, Or.inl ⟨rfl, co44⟩⟩
theorem im44 : Cond.instanceMethod (yn 44) ∈ AW_ := awT2 216 rfl rfl
theorem se44 : Cond.selects (RN (mo 44)) (yn 44) (yn 44) ∈ AW_ := awP 12 rfl rfl
theorem co45 : Cond.code (yn 45) (cc 45) (mL 45) (rt 45) ∈ AW_ := awT2 220 rfl rfl
theorem mk45 : MK 45 := ⟨in4, by decide +kernel, ⟨by decide +kernel, by decide +kernel⟩, by decide +kernel, by decide, Or.inl ⟨rfl, co45⟩⟩
theorem ss45 : Cond.static (yn 45) ∈ AW_ := awT2 219 rfl rfl
theorem co46 : Cond.code (yn 46) (cc 46) (mL 46) (rt 46) ∈ AW_ := awT2 224 rfl rfl
theorem mk46 : MK 46 := ⟨in4, by decide +kernel, ⟨by decide +kernel, by decide +kernel⟩, by decide +kernel, by decide, Or.inl ⟨rfl, co46⟩⟩
theorem ss46 : Cond.static (yn 46) ∈ AW_ := awT2 223 rfl rfl
theorem co47 : Cond.code (yn 47) (cc 47) (mL 47) (rt 47) ∈ AW_ := awT2 228 rfl rfl
theorem mk47 : MK 47 := ⟨in1, by decide +kernel, ⟨by decide +kernel, by decide +kernel⟩, by decide +kernel, by decide, Or.inl ⟨rfl, co47⟩⟩
theorem im47 : Cond.instanceMethod (yn 47) ∈ AW_ := awT2 226 rfl rfl
theorem se47 : Cond.selects (RN (mo 47)) (yn 47) (yn 47) ∈ AW_ := awT2 227 rfl rfl
theorem co48 : Cond.code (yn 48) (cc 48) (mL 48) (rt 48) ∈ AW_ := awT2 233 rfl rfl
theorem mk48 : MK 48 := ⟨in1, by decide +kernel, ⟨by decide +kernel, by decide +kernel⟩, by decide +kernel, by decide, Or.inl ⟨rfl, co48⟩⟩
theorem im48 : Cond.instanceMethod (yn 48) ∈ AW_ := awT2 231 rfl rfl
theorem se48 : Cond.selects (RN (mo 48)) (yn 48) (yn 48) ∈ AW_ := awT2 232 rfl rfl
theorem co49 : Cond.codeWith (yn 49) (cc 49) (mL 49) (rt 49) (hh 49) ∈ AW_ := awT2 237 rfl rfl
theorem mk49 : MK 49 := ⟨in6, by decide +kernel, ⟨by decide +kernel, by decide +kernel⟩, by decide +kernel, by decide, Or.inr co49⟩
theorem ss49 : Cond.static (yn 49) ∈ AW_ := awT2 236 rfl rfl
theorem co50 : Cond.code (yn 50) (cc 50) (mL 50) (rt 50) ∈ AW_ := awT3 1 rfl rfl
theorem mk50 : MK 50 := ⟨in4, by decide +kernel, ⟨by decide +kernel, by decide +kernel⟩, by decide +kernel, by decide, Or.inl ⟨rfl, co50⟩⟩
theorem im50 : Cond.instanceMethod (yn 50) ∈ AW_ := awT2 239 rfl rfl
theorem se50 : Cond.selects (RN (mo 50)) (yn 50) (yn 50) ∈ AW_ := awT3 0 rfl rfl
theorem co51 : Cond.code (yn 51) (cc 51) (mL 51) (rt 51) ∈ AW_ := awT3 4 rfl rfl
theorem mk51 : MK 51 := ⟨in4, by decide +kernel, ⟨by decide +kernel, by decide +kernel⟩, by decide +kernel, by decide, Or.inl ⟨rfl, co51⟩⟩
theorem ss51 : Cond.static (yn 51) ∈ AW_ := awT3 3 rfl rfl
theorem co52 : Cond.code (yn 52) (cc 52) (mL 52) (rt 52) ∈ AW_ := awT3 9 rfl rfl
theorem mk52 : MK 52 := ⟨in1, by decide +kernel, ⟨by decide +kernel, by decide +kernel⟩, by decide +kernel, by decide, Or.inl ⟨rfl, co52⟩⟩
theorem im52 : Cond.instanceMethod (yn 52) ∈ AW_ := awT3 7 rfl rfl
theorem se52 : Cond.selects (RN (mo 52)) (yn 52) (yn 52) ∈ AW_ := awT3 8 rfl rfl
theorem co53 : Cond.codeWith (yn 53) (cc 53) (mL 53) (rt 53) (hh 53) ∈ AW_ := awT3 12 rfl rfl
theorem mk53 : MK 53 := ⟨in6, by decide +kernel, ⟨by decide +kernel, by decide +kernel⟩, by decide +kernel, by decide, Or.inr co53⟩
theorem ss53 : Cond.static (yn 53) ∈ AW_ := awT3 11 rfl rfl
theorem co54 : Cond.code (yn 54) (cc 54) (mL 54) (rt 54) ∈ AW_ := awT3 16 rfl rfl
theorem mk54 : MK 54 := ⟨in4, by decide +kernel, ⟨by decide +kernel, by decide +kernel⟩, by decide +kernel, by decide, Or.inl ⟨rfl, co54⟩⟩
theorem im54 : Cond.instanceMethod (yn 54) ∈ AW_ := awT3 14 rfl rfl
theorem se54 : Cond.selects (RN (mo 54)) (yn 54) (yn 54) ∈ AW_ := awT3 15 rfl rfl
theorem co55 : Cond.codeWith (yn 55) (cc 55) (mL 55) (rt 55) (hh 55) ∈ AW_ := awT3 19 rfl rfl
theorem mk55 : MK 55 := ⟨in6, by decide +kernel, ⟨by decide +kernel, by decide +kernel⟩, by decide +kernel, by decide, Or.inr co55⟩
theorem ss55 : Cond.static (yn 55) ∈ AW_ := awT3 18 rfl rfl
theorem co56 : Cond.code (yn 56) (cc 56) (mL 56) (rt 56) ∈ AW_ := awT3 23 rfl rfl
theorem mk56 : MK 56 := ⟨in4, by decide +kernel, ⟨by decide +kernel, by decide +kernel⟩, by decide +kernel, by decide, Or.inl ⟨rfl, co56⟩⟩
theorem im56 : Cond.instanceMethod (yn 56) ∈ AW_ := awT3 21 rfl rfl
theorem se56 : Cond.selects (RN (mo 56)) (yn 56) (yn 56) ∈ AW_ := awT3 22 rfl rfl
theorem co57 : Cond.codeWith (yn 57) (cc 57) (mL 57) (rt 57) (hh 57) ∈ AW_ := awT3 26 rfl rfl
theorem mk57 : MK 57 := ⟨in6, by decide +kernel, ⟨by decide +kernel, by decide +kernel⟩, by decide +kernel, by decide, Or.inr co57⟩
theorem ss57 : Cond.static (yn 57) ∈ AW_ := awT3 25 rfl rfl
theorem co58 : Cond.code (yn 58) (cc 58) (mL 58) (rt 58) ∈ AW_ := awT3 30 rfl rfl
theorem mk58 : MK 58 := ⟨in4, by decide +kernel, ⟨by decide +kernel, by decide +kernel⟩, by decide +kernel, by decide, Or.inl ⟨rfl, co58⟩⟩
theorem im58 : Cond.instanceMethod (yn 58) ∈ AW_ := awT3 28 rfl rfl
theorem se58 : Cond.selects (RN (mo 58)) (yn 58) (yn 58) ∈ AW_ := awT3 29 rfl rfl
theorem co59 : Cond.code (yn 59) (cc 59) (mL 59) (rt 59) ∈ AW_ := awT3 34 rfl rfl
theorem mk59 : MK 59 := ⟨in4, by decide +kernel, ⟨by decide +kernel, by decide +kernel⟩, by decide +kernel, by decide, Or.inl ⟨rfl, co59⟩⟩
theorem im59 : Cond.instanceMethod (yn 59) ∈ AW_ := awT3 33 rfl rfl
theorem se59 : Cond.selects (RN (mo 59)) (yn 59) (yn 59) ∈ AW_ := awP 13 rfl rfl
theorem co60 : Cond.code (yn 60) (cc 60) (mL 60) (rt 60) ∈ AW_ := awT3 38 rfl rfl
theorem mk60 : MK 60 := ⟨in4, by decide +kernel, ⟨by decide +kernel, by decide +kernel⟩, by decide +kernel, by decide, Or.inl ⟨rfl, co60⟩⟩
theorem im60 : Cond.instanceMethod (yn 60) ∈ AW_ := awT3 37 rfl rfl
theorem se60 : Cond.selects (RN (mo 60)) (yn 60) (yn 60) ∈ AW_ := awP 14 rfl rfl
theorem co61 : Cond.codeWith (yn 61) (cc 61) (mL 61) (rt 61) (hh 61) ∈ AW_ := awT3 42 rfl rfl
theorem mk61 : MK 61 := ⟨in6, by decide +kernel, ⟨by decide +kernel, by decide +kernel⟩, by decide +kernel, by decide, Or.inr co61⟩
theorem ss61 : Cond.static (yn 61) ∈ AW_ := awT3 41 rfl rfl
theorem co62 : Cond.code (yn 62) (cc 62) (mL 62) (rt 62) ∈ AW_ := awT3 46 rfl rfl
theorem mk62 : MK 62 := ⟨in4, by decide +kernel, ⟨by decide +kernel, by decide +kernel⟩, by decide +kernel, by decide, Or.inl ⟨rfl, co62⟩⟩
theorem im62 : Cond.instanceMethod (yn 62) ∈ AW_ := awT3 44 rfl rfl
theorem se62 : Cond.selects (RN (mo 62)) (yn 62) (yn 62) ∈ AW_ := awT3 45 rfl rfl
theorem co63 : Cond.codeWith (yn 63) (cc 63) (mL 63) (rt 63) (hh 63) ∈ AW_ := awT3 49 rfl rfl
theorem mk63 : MK 63 := ⟨in6, by decide +kernel, ⟨by decide +kernel, by decide +kernel⟩, by decide +kernel, by decide, Or.inr co63⟩
theorem ss63 : Cond.static (yn 63) ∈ AW_ := awT3 48 rfl rfl
theorem co64 : Cond.code (yn 64) (cc 64) (mL 64) (rt 64) ∈ AW_ := awT3 53 rfl rfl
theorem mk64 : MK 64 := ⟨in4, by decide +kernel, ⟨by decide +kernel, by decide +kernel⟩, by decide +kernel, by decide, Or.inl ⟨rfl, co64⟩⟩
theorem im64 : Cond.instanceMethod (yn 64) ∈ AW_ := awT3 51 rfl rfl
theorem se64 : Cond.selects (RN (mo 64)) (yn 64) (yn 64) ∈ AW_ := awT3 52 rfl rfl
theorem co65 : Cond.codeWith (yn 65) (cc 65) (mL 65) (rt 65) (hh 65) ∈ AW_ := awT3 56 rfl rfl
theorem mk65 : MK 65 := ⟨in6, by decide +kernel, ⟨by decide +kernel, by decide +kernel⟩, by decide +kernel, by decide, Or.inr co65⟩
theorem ss65 : Cond.static (yn 65) ∈ AW_ := awT3 55 rfl rfl
theorem co66 : Cond.code (yn 66) (cc 66) (mL 66) (rt 66) ∈ AW_ := awT3 60 rfl rfl
theorem mk66 : MK 66 := ⟨in4, by decide +kernel, ⟨by decide +kernel, by decide +kernel⟩, by decide +kernel, by decide, Or.inl ⟨rfl, co66⟩⟩
theorem im66 : Cond.instanceMethod (yn 66) ∈ AW_ := awT3 58 rfl rfl
theorem se66 : Cond.selects (RN (mo 66)) (yn 66) (yn 66) ∈ AW_ := awT3 59 rfl rfl
theorem co67 : Cond.code (yn 67) (cc 67) (mL 67) (rt 67) ∈ AW_ := awT3 64 rfl rfl
theorem mk67 : MK 67 := ⟨in4, by decide +kernel, ⟨by decide +kernel, by decide +kernel⟩, by decide +kernel, by decide, Or.inl ⟨rfl, co67⟩⟩
theorem im67 : Cond.instanceMethod (yn 67) ∈ AW_ := awT3 63 rfl rfl
theorem se67 : Cond.selects (RN (mo 67)) (yn 67) (yn 67) ∈ AW_ := awP 15 rfl rfl
theorem co68 : Cond.code (yn 68) (cc 68) (mL 68) (rt 68) ∈ AW_ := awT3 68 rfl rfl
theorem mk68 : MK 68 := ⟨in1, by decide +kernel, ⟨by decide +kernel, by decide +kernel⟩, by decide +kernel, by decide, Or.inl ⟨rfl, co68⟩⟩
theorem im68 : Cond.instanceMethod (yn 68) ∈ AW_ := awT3 66 rfl rfl
theorem se68 : Cond.selects (RN (mo 68)) (yn 68) (yn 68) ∈ AW_ := awT3 67 rfl rfl
theorem co69 : Cond.code (yn 69) (cc 69) (mL 69) (rt 69) ∈ AW_ := awT3 72 rfl rfl
theorem mk69 : MK 69 := ⟨in1, by decide +kernel, ⟨by decide +kernel, by decide +kernel⟩, by decide +kernel, by decide, Or.inl ⟨rfl, co69⟩⟩
theorem im69 : Cond.instanceMethod (yn 69) ∈ AW_ := awT3 70 rfl rfl
theorem se69 : Cond.selects (RN (mo 69)) (yn 69) (yn 69) ∈ AW_ := awT3 71 rfl rfl
theorem co70 : Cond.code (yn 70) (cc 70) (mL 70) (rt 70) ∈ AW_ := awT3 75 rfl rfl
theorem mk70 : MK 70 := ⟨in4, by decide +kernel, ⟨by decide +kernel, by decide +kernel⟩, by decide +kernel, by decide, Or.inl ⟨rfl, co70⟩⟩
theorem ss70 : Cond.static (yn 70) ∈ AW_ := awT3 74 rfl rfl
theorem co71 : Cond.code (yn 71) (cc 71) (mL 71) (rt 71) ∈ AW_ := awT3 79 rfl rfl
theorem mk71 : MK 71 := ⟨in4, by decide +kernel, ⟨by decide +kernel, by decide +kernel⟩, by decide +kernel, by decide, Or.inl ⟨rfl, co71⟩⟩
theorem im71 : Cond.instanceMethod (yn 71) ∈ AW_ := awT3 78 rfl rfl
theorem se71 : Cond.selects (RN (mo 71)) (yn 71) (yn 71) ∈ AW_ := awP 16 rfl rfl
theorem co72 : Cond.code (yn 72) (cc 72) (mL 72) (rt 72) ∈ AW_ := awT3 87 rfl rfl
theorem mk72 : MK 72 := ⟨in4, by decide +kernel, ⟨by decide +kernel, by decide +kernel⟩, by decide +kernel, by decide, Or.inl ⟨rfl, co72⟩⟩
theorem im72 : Cond.instanceMethod (yn 72) ∈ AW_ := awT3 86 rfl rfl
theorem se72 : Cond.selects (RN (mo 72)) (yn 72) (yn 72) ∈ AW_ := awP 17 rfl rfl
theorem co73 : Cond.codeWith (yn 73) (cc 73) (mL 73) (rt 73) (hh 73) ∈ AW_ := awT3 90 rfl rfl
theorem mk73 : MK 73 := ⟨in6, by decide +kernel, ⟨by decide +kernel, by decide +kernel⟩, by decide +kernel, by decide, Or.inr co73⟩
theorem ss73 : Cond.static (yn 73) ∈ AW_ := awT3 89 rfl rfl
theorem co74 : Cond.code (yn 74) (cc 74) (mL 74) (rt 74) ∈ AW_ := awT3 94 rfl rfl
theorem mk74 : MK 74 := ⟨in4, by decide +kernel, ⟨by decide +kernel, by decide +kernel⟩, by decide +kernel, by decide, Or.inl ⟨rfl, co74⟩⟩
theorem im74 : Cond.instanceMethod (yn 74) ∈ AW_ := awT3 92 rfl rfl
theorem se74 : Cond.selects (RN (mo 74)) (yn 74) (yn 74) ∈ AW_ := awT3 93 rfl rfl
theorem co75 : Cond.code (yn 75) (cc 75) (mL 75) (rt 75) ∈ AW_ := awT3 98 rfl rfl
theorem mk75 : MK 75 := ⟨in4, by decide +kernel, ⟨by decide +kernel, by decide +kernel⟩, by decide +kernel, by decide, Or.inl ⟨rfl, co75⟩⟩
theorem im75 : Cond.instanceMethod (yn 75) ∈ AW_ := awT3 97 rfl rfl
theorem se75 : Cond.selects (RN (mo 75)) (yn 75) (yn 75) ∈ AW_ := awP 18 rfl rfl
theorem co76 : Cond.codeWith (yn 76) (cc 76) (mL 76) (rt 76) (hh 76) ∈ AW_ := awT3 101 rfl rfl
theorem mk76 : MK 76 := ⟨in6, by decide +kernel, ⟨by decide +kernel, by decide +kernel⟩, by decide +kernel, by decide, Or.inr co76⟩
theorem ss76 : Cond.static (yn 76) ∈ AW_ := awT3 100 rfl rfl
theorem co77 : Cond.code (yn 77) (cc 77) (mL 77) (rt 77) ∈ AW_ := awT3 105 rfl rfl
theorem mk77 : MK 77 := ⟨in4, by decide +kernel, ⟨by decide +kernel, by decide +kernel⟩, by decide +kernel, by decide, Or.inl ⟨rfl, co77⟩⟩
theorem im77 : Cond.instanceMethod (yn 77) ∈ AW_ := awT3 103 rfl rfl
theorem se77 : Cond.selects (RN (mo 77)) (yn 77) (yn 77) ∈ AW_ := awT3 104 rfl rfl
theorem co78 : Cond.codeWith (yn 78) (cc 78) (mL 78) (rt 78) (hh 78) ∈ AW_ := awT3 108 rfl rfl
theorem mk78 : MK 78 := ⟨in6, by decide +kernel, ⟨by decide +kernel, by decide +kernel⟩, by decide +kernel, by decide, Or.inr co78⟩
theorem ss78 : Cond.static (yn 78) ∈ AW_ := awT3 107 rfl rfl
theorem co79 : Cond.code (yn 79) (cc 79) (mL 79) (rt 79) ∈ AW_ := awT3 112 rfl rfl
theorem mk79 : MK 79 := ⟨in4, by decide +kernel, ⟨by decide +kernel, by decide +kernel⟩, by decide +kernel, by decide, Or.inl ⟨rfl, co79⟩⟩
theorem im79 : Cond.instanceMethod (yn 79) ∈ AW_ := awT3 110 rfl rfl
theorem se79 : Cond.selects (RN (mo 79)) (yn 79) (yn 79) ∈ AW_ := awT3 111 rfl rfl
theorem co80 : Cond.codeWith (yn 80) (cc 80) (mL 80) (rt 80) (hh 80) ∈ AW_ := awT3 115 rfl rfl
theorem mk80 : MK 80 := ⟨in6, by decide +kernel, ⟨by decide +kernel, by decide +kernel⟩, by decide +kernel, by decide, Or.inr co80⟩
theorem ss80 : Cond.static (yn 80) ∈ AW_ := awT3 114 rfl rfl
theorem co81 : Cond.code (yn 81) (cc 81) (mL 81) (rt 81) ∈ AW_ := awT3 119 rfl rfl
theorem mk81 : MK 81 := ⟨in4, by decide +kernel, ⟨by decide +kernel, by decide +kernel⟩, by decide +kernel, by decide, Or.inl ⟨rfl, co81⟩⟩
theorem im81 : Cond.instanceMethod (yn 81) ∈ AW_ := awT3 117 rfl rfl
theorem se81 : Cond.selects (RN (mo 81)) (yn 81) (yn 81) ∈ AW_ := awT3 118 rfl rfl
theorem co82 : Cond.codeWith (yn 82) (cc 82) (mL 82) (rt 82) (hh 82) ∈ AW_ := awT3 122 rfl rfl
theorem mk82 : MK 82 := ⟨in6, by decide +kernel, ⟨by decide +kernel, by decide +kernel⟩, by decide +kernel, by decide, Or.inr co82⟩
theorem ss82 : Cond.static (yn 82) ∈ AW_ := awT3 121 rfl rfl
theorem co83 : Cond.code (yn 83) (cc 83) (mL 83) (rt 83) ∈ AW_ := awT3 126 rfl rfl
theorem mk83 : MK 83 := ⟨in4, by decide +kernel, ⟨by decide +kernel, by decide +kernel⟩, by decide +kernel, by decide, Or.inl ⟨rfl, co83⟩⟩
theorem im83 : Cond.instanceMethod (yn 83) ∈ AW_ := awT3 124 rfl rfl
theorem se83 : Cond.selects (RN (mo 83)) (yn 83) (yn 83) ∈ AW_ := awT3 125 rfl rfl
theorem co84 : Cond.code (yn 84) (cc 84) (mL 84) (rt 84) ∈ AW_ := awT3 130 rfl rfl
theorem mk84 : MK 84 := ⟨in4, by decide +kernel, ⟨by decide +kernel, by decide +kernel⟩, by decide +kernel, by decide, Or.inl ⟨rfl, co84⟩⟩
theorem im84 : Cond.instanceMethod (yn 84) ∈ AW_ := awT3 129 rfl rfl
theorem se84 : Cond.selects (RN (mo 84)) (yn 84) (yn 84) ∈ AW_ := awP 19 rfl rfl
theorem co85 : Cond.code (yn 85) (cc 85) (mL 85) (rt 85) ∈ AW_ := awT3 134 rfl rfl
theorem mk85 : MK 85 := ⟨in2, by decide +kernel, ⟨by decide +kernel, by decide +kernel⟩, by decide +kernel, by decide, Or.inl ⟨rfl, co85⟩⟩
theorem im85 : Cond.instanceMethod (yn 85) ∈ AW_ := awT3 132 rfl rfl
theorem se85 : Cond.selects (RN (mo 85)) (yn 85) (yn 85) ∈ AW_ := awT3 133 rfl rfl
theorem co86 : Cond.code (yn 86) (cc 86) (mL 86) (rt 86) ∈ AW_ := awT3 139 rfl rfl
theorem mk86 : MK 86 := ⟨in5, by decide +kernel, ⟨by decide +kernel, by decide +kernel⟩, by decide +kernel, by decide, Or.inl ⟨rfl, co86⟩⟩
theorem im86 : Cond.instanceMethod (yn 86) ∈ AW_ := awT3 138 rfl rfl
theorem co87 : Cond.code (yn 87) (cc 87) (mL 87) (rt 87) ∈ AW_ := awT3 227 rfl rfl
theorem mk87 : MK 87 := ⟨in5, by decide +kernel, ⟨by decide +kernel, by decide +kernel⟩, by decide +kernel, by decide, Or.inl ⟨rfl, co87⟩⟩
theorem im87 : Cond.instanceMethod (yn 87) ∈ AW_ := awT3 225 rfl rfl
theorem se87 : Cond.selects (RN (mo 87)) (yn 87) (yn 87) ∈ AW_ := awT3 226 rfl rfl
theorem co88 : Cond.code (yn 88) (cc 88) (mL 88) (rt 88) ∈ AW_ := awT3 231 rfl rfl
theorem mk88 : MK 88 := ⟨in5, by decide +kernel, ⟨by decide +kernel, by decide +kernel⟩, by decide +kernel, by decide, Or.inl ⟨rfl, co88⟩⟩
theorem im88 : Cond.instanceMethod (yn 88) ∈ AW_ := awT3 229 rfl rfl
theorem se88 : Cond.selects (RN (mo 88)) (yn 88) (yn 88) ∈ AW_ := awT3 230 rfl rfl
theorem co89 : Cond.code (yn 89) (cc 89) (mL 89) (rt 89) ∈ AW_ := awT3 234 rfl rfl
theorem mk89 : MK 89 := ⟨in5, by decide +kernel, ⟨by decide +kernel, by decide +kernel⟩, by decide +kernel, by decide, Or.inl ⟨rfl, co89⟩⟩
theorem ss89 : Cond.static (yn 89) ∈ AW_ := awT3 233 rfl rfl
theorem co90 : Cond.code (yn 90) (cc 90) (mL 90) (rt 90) ∈ AW_ := awT3 237 rfl rfl
theorem mk90 : MK 90 := ⟨in5, by decide +kernel, ⟨by decide +kernel, by decide +kernel⟩, by decide +kernel, by decide, Or.inl ⟨rfl, co90⟩⟩
theorem ss90 : Cond.static (yn 90) ∈ AW_ := awT3 236 rfl rfl
theorem co91 : Cond.code (yn 91) (cc 91) (mL 91) (rt 91) ∈ AW_ := awT4 1 rfl rfl
theorem mk91 : MK 91 := ⟨in5, by decide +kernel, ⟨by decide +kernel, by decide +kernel⟩, by decide +kernel, by decide, Or.inl ⟨rfl, co91⟩⟩
theorem im91 : Cond.instanceMethod (yn 91) ∈ AW_ := awT4 0 rfl rfl
theorem se91 : Cond.selects (RN (mo 91)) (yn 91) (yn 91) ∈ AW_ := awP 20 rfl rfl
theorem co92 : Cond.code (yn 92) (cc 92) (mL 92) (rt 92) ∈ AW_ := awT4 5 rfl rfl
theorem mk92 : MK 92 := ⟨in5, by decide +kernel, ⟨by decide +kernel, by decide +kernel⟩, by decide +kernel, by decide, Or.inl ⟨rfl, co92⟩⟩
theorem im92 : Cond.instanceMethod (yn 92) ∈ AW_ := awT4 4 rfl rfl
theorem se92 : Cond.selects (RN (mo 92)) (yn 92) (yn 92) ∈ AW_ := awP 21 rfl rfl
theorem co93 : Cond.code (yn 93) (cc 93) (mL 93) (rt 93) ∈ AW_ := awT4 9 rfl rfl
theorem mk93 : MK 93 := ⟨in5, by decide +kernel, ⟨by decide +kernel, by decide +kernel⟩, by decide +kernel, by decide, Or.inl ⟨rfl, co93⟩⟩
theorem im93 : Cond.instanceMethod (yn 93) ∈ AW_ := awT4 7 rfl rfl
theorem se93 : Cond.selects (RN (mo 93)) (yn 93) (yn 93) ∈ AW_ := awT4 8 rfl rfl
theorem co94 : Cond.code (yn 94) (cc 94) (mL 94) (rt 94) ∈ AW_ := awT4 14 rfl rfl
theorem mk94 : MK 94 := ⟨in5, by decide +kernel, ⟨by decide +kernel, by decide +kernel⟩, by decide +kernel, by decide, Or.inl ⟨rfl, co94⟩⟩
theorem im94 : Cond.instanceMethod (yn 94) ∈ AW_ := awT4 12 rfl rfl
theorem se94 : Cond.selects (RN (mo 94)) (yn 94) (yn 94) ∈ AW_ := awT4 13 rfl rfl
theorem co95 : Cond.code (yn 95) (cc 95) (mL 95) (rt 95) ∈ AW_ := awT4 18 rfl rfl
theorem mk95 : MK 95 := ⟨in5, by decide +kernel, ⟨by decide +kernel, by decide +kernel⟩, by decide +kernel, by decide, Or.inl ⟨rfl, co95⟩⟩
theorem im95 : Cond.instanceMethod (yn 95) ∈ AW_ := awT4 16 rfl rfl
theorem se95 : Cond.selects (RN (mo 95)) (yn 95) (yn 95) ∈ AW_ := awT4 17 rfl rfl
theorem co96 : Cond.code (yn 96) (cc 96) (mL 96) (rt 96) ∈ AW_ := awT4 22 rfl rfl
theorem mk96 : MK 96 := ⟨in5, by decide +kernel, ⟨by decide +kernel, by decide +kernel⟩, by decide +kernel, by decide, Or.inl ⟨rfl, co96⟩⟩
theorem im96 : Cond.instanceMethod (yn 96) ∈ AW_ := awT4 21 rfl rfl
theorem se96 : Cond.selects (RN (mo 96)) (yn 96) (yn 96) ∈ AW_ := awP 22 rfl rfl
theorem co97 : Cond.code (yn 97) (cc 97) (mL 97) (rt 97) ∈ AW_ := awT4 26 rfl rfl
theorem mk97 : MK 97 := ⟨in5, by decide +kernel, ⟨by decide +kernel, by decide +kernel⟩, by decide +kernel, by decide, Or.inl ⟨rfl, co97⟩⟩
theorem im97 : Cond.instanceMethod (yn 97) ∈ AW_ := awT4 25 rfl rfl
theorem se97 : Cond.selects (RN (mo 97)) (yn 97) (yn 97) ∈ AW_ := awP 23 rfl rfl
theorem co98 : Cond.code (yn 98) (cc 98) (mL 98) (rt 98) ∈ AW_ := awT4 30 rfl rfl
theorem mk98 : MK 98 := ⟨in5, by decide +kernel, ⟨by decide +kernel, by decide +kernel⟩, by decide +kernel, by decide, Or.inl ⟨rfl, co98⟩⟩
theorem im98 : Cond.instanceMethod (yn 98) ∈ AW_ := awT4 29 rfl rfl
theorem se98 : Cond.selects (RN (mo 98)) (yn 98) (yn 98) ∈ AW_ := awP 24 rfl rfl
theorem co99 : Cond.code (yn 99) (cc 99) (mL 99) (rt 99) ∈ AW_ := awT4 34 rfl rfl
theorem mk99 : MK 99 := ⟨in5, by decide +kernel, ⟨by decide +kernel, by decide +kernel⟩, by decide +kernel, by decide, Or.inl ⟨rfl, co99⟩⟩
theorem im99 : Cond.instanceMethod (yn 99) ∈ AW_ := awT4 32 rfl rfl
theorem se99 : Cond.selects (RN (mo 99)) (yn 99) (yn 99) ∈ AW_ := awT4 33 rfl rfl
theorem co100 : Cond.code (yn 100) (cc 100) (mL 100) (rt 100) ∈ AW_ := awT4 38 rfl rfl
theorem mk100 : MK 100 := ⟨in5, by decide +kernel, ⟨by decide +kernel, by decide +kernel⟩, by decide +kernel, by decide, Or.inl ⟨rfl, co100⟩⟩
theorem im100 : Cond.instanceMethod (yn 100) ∈ AW_ := awT4 36 rfl rfl
theorem se100 : Cond.selects (RN (mo 100)) (yn 100) (yn 100) ∈ AW_ := awT4 37 rfl rfl
theorem co101 : Cond.code (yn 101) (cc 101) (mL 101) (rt 101) ∈ AW_ := awT4 42 rfl rfl
theorem mk101 : MK 101 := ⟨in5, by decide +kernel, ⟨by decide +kernel, by decide +kernel⟩, by decide +kernel, by decide, Or.inl ⟨rfl, co101⟩⟩
theorem im101 : Cond.instanceMethod (yn 101) ∈ AW_ := awT4 41 rfl rfl
theorem se101 : Cond.selects (RN (mo 101)) (yn 101) (yn 101) ∈ AW_ := awP 25 rfl rfl
theorem co102 : Cond.code (yn 102) (cc 102) (mL 102) (rt 102) ∈ AW_ := awT4 46 rfl rfl
theorem mk102 : MK 102 := ⟨in5, by decide +kernel, ⟨by decide +kernel, by decide +kernel⟩, by decide +kernel, by decide, Or.inl ⟨rfl, co102⟩⟩
theorem im102 : Cond.instanceMethod (yn 102) ∈ AW_ := awT4 45 rfl rfl
theorem se102 : Cond.selects (RN (mo 102)) (yn 102) (yn 102) ∈ AW_ := awP 26 rfl rfl
theorem co103 : Cond.code (yn 103) (cc 103) (mL 103) (rt 103) ∈ AW_ := awT4 50 rfl rfl
theorem mk103 : MK 103 := ⟨in5, by decide +kernel, ⟨by decide +kernel, by decide +kernel⟩, by decide +kernel, by decide, Or.inl ⟨rfl, co103⟩⟩
theorem im103 : Cond.instanceMethod (yn 103) ∈ AW_ := awT4 48 rfl rfl
theorem se103 : Cond.selects (RN (mo 103)) (yn 103) (yn 103) ∈ AW_ := awT4 49 rfl rfl
theorem co104 : Cond.code (yn 104) (cc 104) (mL 104) (rt 104) ∈ AW_ := awT4 54 rfl rfl
theorem mk104 : MK 104 := ⟨in5, by decide +kernel, ⟨by decide +kernel, by decide +kernel⟩, by decide +kernel, by decide, Or.inl ⟨rfl, co104⟩⟩
theorem im104 : Cond.instanceMethod (yn 104) ∈ AW_ := awT4 52 rfl rfl
theorem se104 : Cond.selects (RN (mo 104)) (yn 104) (yn 104) ∈ AW_ := awT4 53 rfl rfl
theorem co105 : Cond.code (yn 105) (cc 105) (mL 105) (rt 105) ∈ AW_ := awT4 58 rfl rfl
theorem mk105 : MK 105 := ⟨in5, by decide +kernel, ⟨by decide +kernel, by decide +kernel⟩, by decide +kernel, by decide, Or.inl ⟨rfl, co105⟩⟩
theorem im105 : Cond.instanceMethod (yn 105) ∈ AW_ := awT4 56 rfl rfl
theorem se105 : Cond.selects (RN (mo 105)) (yn 105) (yn 105) ∈ AW_ := awT4 57 rfl rfl
theorem co106 : Cond.code (yn 106) (cc 106) (mL 106) (rt 106) ∈ AW_ := awT4 62 rfl rfl
theorem mk106 : MK 106 := ⟨in5, by decide +kernel, ⟨by decide +kernel, by decide +kernel⟩, by decide +kernel, by decide, Or.inl ⟨rfl, co106⟩⟩
theorem im106 : Cond.instanceMethod (yn 106) ∈ AW_ := awT4 61 rfl rfl
theorem se106 : Cond.selects (RN (mo 106)) (yn 106) (yn 106) ∈ AW_ := awP 27 rfl rfl
theorem co107 : Cond.code (yn 107) (cc 107) (mL 107) (rt 107) ∈ AW_ := awT4 66 rfl rfl
theorem mk107 : MK 107 := ⟨in5, by decide +kernel, ⟨by decide +kernel, by decide +kernel⟩, by decide +kernel, by decide, Or.inl ⟨rfl, co107⟩⟩
theorem im107 : Cond.instanceMethod (yn 107) ∈ AW_ := awT4 65 rfl rfl
theorem se107 : Cond.selects (RN (mo 107)) (yn 107) (yn 107) ∈ AW_ := awP 28 rfl rfl
theorem co108 : Cond.code (yn 108) (cc 108) (mL 108) (rt 108) ∈ AW_ := awT4 70 rfl rfl
theorem mk108 : MK 108 := ⟨in5, by decide +kernel, ⟨by decide +kernel, by decide +kernel⟩, by decide +kernel, by decide, Or.inl ⟨rfl, co108⟩⟩
theorem im108 : Cond.instanceMethod (yn 108) ∈ AW_ := awT4 69 rfl rfl
theorem se108 : Cond.selects (RN (mo 108)) (yn 108) (yn 108) ∈ AW_ := awP 29 rfl rfl
theorem co109 : Cond.code (yn 109) (cc 109) (mL 109) (rt 109) ∈ AW_ := awT4 74 rfl rfl
theorem mk109 : MK 109 := ⟨in5, by decide +kernel, ⟨by decide +kernel, by decide +kernel⟩, by decide +kernel, by decide, Or.inl ⟨rfl, co109⟩⟩
theorem im109 : Cond.instanceMethod (yn 109) ∈ AW_ := awT4 73 rfl rfl
theorem se109 : Cond.selects (RN (mo 109)) (yn 109) (yn 109) ∈ AW_ := awP 30 rfl rfl
theorem co110 : Cond.code (yn 110) (cc 110) (mL 110) (rt 110) ∈ AW_ := awT4 80 rfl rfl
theorem mk110 : MK 110 := ⟨in5, by decide +kernel, ⟨by decide +kernel, by decide +kernel⟩, by decide +kernel, by decide, Or.inl ⟨rfl, co110⟩⟩
theorem im110 : Cond.instanceMethod (yn 110) ∈ AW_ := awT4 79 rfl rfl
theorem se110 : Cond.selects (RN (mo 110)) (yn 110) (yn 110) ∈ AW_ := awP 31 rfl rfl
theorem co111 : Cond.code (yn 111) (cc 111) (mL 111) (rt 111) ∈ AW_ := awT4 84 rfl rfl
theorem mk111 : MK 111 := ⟨in5, by decide +kernel, ⟨by decide +kernel, by decide +kernel⟩, by decide +kernel, by decide, Or.inl ⟨rfl, co111⟩⟩
theorem im111 : Cond.instanceMethod (yn 111) ∈ AW_ := awT4 83 rfl rfl
theorem se111 : Cond.selects (RN (mo 111)) (yn 111) (yn 111) ∈ AW_ := awP 32 rfl rfl
theorem co112 : Cond.code (yn 112) (cc 112) (mL 112) (rt 112) ∈ AW_ := awT4 88 rfl rfl
theorem mk112 : MK 112 := ⟨in5, by decide +kernel, ⟨by decide +kernel, by decide +kernel⟩, by decide +kernel, by decide, Or.inl ⟨rfl, co112⟩⟩
theorem im112 : Cond.instanceMethod (yn 112) ∈ AW_ := awT4 87 rfl rfl
theorem se112 : Cond.selects (RN (mo 112)) (yn 112) (yn 112) ∈ AW_ := awP 33 rfl rfl
theorem co113 : Cond.code (yn 113) (cc 113) (mL 113) (rt 113) ∈ AW_ := awT4 91 rfl rfl
theorem mk113 : MK 113 := ⟨in5, by decide +kernel, ⟨by decide +kernel, by decide +kernel⟩, by decide +kernel, by decide, Or.inl ⟨rfl, co113⟩⟩
theorem ss113 : Cond.static (yn 113) ∈ AW_ := awT4 90 rfl rfl
theorem co114 : Cond.code (yn 114) (cc 114) (mL 114) (rt 114) ∈ AW_ := awT4 95 rfl rfl
theorem mk114 : MK 114 := ⟨in5, by decide +kernel, ⟨by decide +kernel, by decide +kernel⟩, by decide +kernel, by decide, Or.inl ⟨rfl, co114⟩⟩
theorem im114 : Cond.instanceMethod (yn 114) ∈ AW_ := awT4 94 rfl rfl
theorem se114 : Cond.selects (RN (mo 114)) (yn 114) (yn 114) ∈ AW_ := awP 34 rfl rfl
theorem co115 : Cond.code (yn 115) (cc 115) (mL 115) (rt 115) ∈ AW_ := awT4 99 rfl rfl
theorem mk115 : MK 115 := ⟨in5, by decide +kernel, ⟨by decide +kernel, by decide +kernel⟩, by decide +kernel, by decide, Or.inl ⟨rfl, co115⟩⟩
theorem im115 : Cond.instanceMethod (yn 115) ∈ AW_ := awT4 98 rfl rfl
theorem se115 : Cond.selects (RN (mo 115)) (yn 115) (yn 115) ∈ AW_ := awP 35 rfl rfl
theorem co116 : Cond.code (yn 116) (cc 116) (mL 116) (rt 116) ∈ AW_ := awT4 103 rfl rfl
theorem mk116 : MK 116 := ⟨in5, by decide +kernel, ⟨by decide +kernel, by decide +kernel⟩, by decide +kernel, by decide, Or.inl ⟨rfl, co116⟩⟩
theorem im116 : Cond.instanceMethod (yn 116) ∈ AW_ := awT4 102 rfl rfl
theorem se116 : Cond.selects (RN (mo 116)) (yn 116) (yn 116) ∈ AW_ := awP 36 rfl rfl
theorem co117 : Cond.code (yn 117) (cc 117) (mL 117) (rt 117) ∈ AW_ := awT4 107 rfl rfl
theorem mk117 : MK 117 := ⟨in5, by decide +kernel, ⟨by decide +kernel, by decide +kernel⟩, by decide +kernel, by decide, Or.inl ⟨rfl, co117⟩⟩
theorem im117 : Cond.instanceMethod (yn 117) ∈ AW_ := awT4 106 rfl rfl
theorem se117 : Cond.selects (RN (mo 117)) (yn 117) (yn 117) ∈ AW_ := awP 37 rfl rfl
theorem co118 : Cond.code (yn 118) (cc 118) (mL 118) (rt 118) ∈ AW_ := awT4 111 rfl rfl
theorem mk118 : MK 118 := ⟨in5, by decide +kernel, ⟨by decide +kernel, by decide +kernel⟩, by decide +kernel, by decide, Or.inl ⟨rfl, co118⟩⟩
theorem im118 : Cond.instanceMethod (yn 118) ∈ AW_ := awT4 110 rfl rfl
theorem se118 : Cond.selects (RN (mo 118)) (yn 118) (yn 118) ∈ AW_ := awP 38 rfl rfl
theorem co119 : Cond.code (yn 119) (cc 119) (mL 119) (rt 119) ∈ AW_ := awT4 115 rfl rfl
theorem mk119 : MK 119 := ⟨in5, by decide +kernel, ⟨by decide +kernel, by decide +kernel⟩, by decide +kernel, by decide, Or.inl ⟨rfl, co119⟩⟩
theorem im119 : Cond.instanceMethod (yn 119) ∈ AW_ := awT4 113 rfl rfl
theorem se119 : Cond.selects (RN (mo 119)) (yn 119) (yn 119) ∈ AW_ := awT4 114 rfl rfl
theorem co120 : Cond.code (yn 120) (cc 120) (mL 120) (rt 120) ∈ AW_ := awT4 119 rfl rfl
theorem mk120 : MK 120 := ⟨in5, by decide +kernel, ⟨by decide +kernel, by decide +kernel⟩, by decide +kernel, by decide, Or.inl ⟨rfl, co120⟩⟩
theorem im120 : Cond.instanceMethod (yn 120) ∈ AW_ := awT4 117 rfl rfl
theorem se120 : Cond.selects (RN (mo 120)) (yn 120) (yn 120) ∈ AW_ := awT4 118 rfl rfl
theorem co121 : Cond.code (yn 121) (cc 121) (mL 121) (rt 121) ∈ AW_ := awT4 123 rfl rfl
theorem mk121 : MK 121 := ⟨in5, by decide +kernel, ⟨by decide +kernel, by decide +kernel⟩, by decide +kernel, by decide, Or.inl ⟨rfl, co121⟩⟩
theorem im121 : Cond.instanceMethod (yn 121) ∈ AW_ := awT4 122 rfl rfl
theorem se121 : Cond.selects (RN (mo 121)) (yn 121) (yn 121) ∈ AW_ := awP 39 rfl rfl
theorem co122 : Cond.code (yn 122) (cc 122) (mL 122) (rt 122) ∈ AW_ := awT4 127 rfl rfl
theorem mk122 : MK 122 := ⟨in5, by decide +kernel, ⟨by decide +kernel, by decide +kernel⟩, by decide +kernel, by decide, Or.inl ⟨rfl, co122⟩⟩
theorem im122 : Cond.instanceMethod (yn 122) ∈ AW_ := awT4 125 rfl rfl
theorem se122 : Cond.selects (RN (mo 122)) (yn 122) (yn 122) ∈ AW_ := awT4 126 rfl rfl
theorem co123 : Cond.code (yn 123) (cc 123) (mL 123) (rt 123) ∈ AW_ := awT4 131 rfl rfl
theorem mk123 : MK 123 := ⟨in5, by decide +kernel, ⟨by decide +kernel, by decide +kernel⟩, by decide +kernel, by decide, Or.inl ⟨rfl, co123⟩⟩
theorem im123 : Cond.instanceMethod (yn 123) ∈ AW_ := awT4 129 rfl rfl
theorem se123 : Cond.selects (RN (mo 123)) (yn 123) (yn 123) ∈ AW_ := awT4 130 rfl rfl
theorem co124 : Cond.code (yn 124) (cc 124) (mL 124) (rt 124) ∈ AW_ := awT4 135 rfl rfl
theorem mk124 : MK 124 := ⟨in5, by decide +kernel, ⟨by decide +kernel, by decide +kernel⟩, by decide +kernel, by decide, Or.inl ⟨rfl, co124⟩⟩
theorem im124 : Cond.instanceMethod (yn 124) ∈ AW_ := awT4 133 rfl rfl
theorem se124 : Cond.selects (RN (mo 124)) (yn 124) (yn 124) ∈ AW_ := awT4 134 rfl rfl
theorem co125 : Cond.code (yn 125) (cc 125) (mL 125) (rt 125) ∈ AW_ := awT4 139 rfl rfl
theorem mk125 : MK 125 := ⟨in5, by decide +kernel, ⟨by decide +kernel, by decide +kernel⟩, by decide +kernel, by decide, Or.inl ⟨rfl, co125⟩⟩
theorem im125 : Cond.instanceMethod (yn 125) ∈ AW_ := awT4 138 rfl rfl
theorem se125 : Cond.selects (RN (mo 125)) (yn 125) (yn 125) ∈ AW_ := awP 40 rfl rfl
theorem co126 : Cond.code (yn 126) (cc 126) (mL 126) (rt 126) ∈ AW_ := awT4 143 rfl rfl
theorem mk126 : MK 126 := ⟨in5, by decide +kernel, ⟨by decide +kernel, by decide +kernel⟩, by decide +kernel, by decide, Or.inl ⟨rfl, co126⟩⟩
theorem im126 : Cond.instanceMethod (yn 126) ∈ AW_ := awT4 141 rfl rfl
theorem se126 : Cond.selects (RN (mo 126)) (yn 126) (yn 126) ∈ AW_ := awT4 142 rfl rfl
theorem co127 : Cond.code (yn 127) (cc 127) (mL 127) (rt 127) ∈ AW_ := awT4 147 rfl rfl
theorem mk127 : MK 127 := ⟨in5, by decide +kernel, ⟨by decide +kernel, by decide +kernel⟩, by decide +kernel, by decide, Or.inl ⟨rfl, co127⟩⟩
theorem im127 : Cond.instanceMethod (yn 127) ∈ AW_ := awT4 146 rfl rfl
theorem se127 : Cond.selects (RN (mo 127)) (yn 127) (yn 127) ∈ AW_ := awP 41 rfl rfl
theorem co128 : Cond.code (yn 128) (cc 128) (mL 128) (rt 128) ∈ AW_ := awT4 151 rfl rfl
theorem mk128 : MK 128 := ⟨in5, by decide +kernel, ⟨by decide +kernel, by decide +kernel⟩, by decide +kernel, by decide, Or.inl ⟨rfl, co128⟩⟩
theorem im128 : Cond.instanceMethod (yn 128) ∈ AW_ := awT4 149 rfl rfl
theorem se128 : Cond.selects (RN (mo 128)) (yn 128) (yn 128) ∈ AW_ := awT4 150 rfl rfl
theorem co129 : Cond.code (yn 129) (cc 129) (mL 129) (rt 129) ∈ AW_ := awT4 155 rfl rfl
theorem mk129 : MK 129 := ⟨in5, by decide +kernel, ⟨by decide +kernel, by decide +kernel⟩, by decide +kernel, by decide, Or.inl ⟨rfl, co129⟩⟩
theorem im129 : Cond.instanceMethod (yn 129) ∈ AW_ := awT4 153 rfl rfl
theorem se129 : Cond.selects (RN (mo 129)) (yn 129) (yn 129) ∈ AW_ := awT4 154 rfl rfl
theorem co130 : Cond.code (yn 130) (cc 130) (mL 130) (rt 130) ∈ AW_ := awT4 159 rfl rfl
theorem mk130 : MK 130 := ⟨in5, by decide +kernel, ⟨by decide +kernel, by decide +kernel⟩, by decide +kernel, by decide, Or.inl ⟨rfl, co130⟩⟩
theorem im130 : Cond.instanceMethod (yn 130) ∈ AW_ := awT4 157 rfl rfl
theorem se130 : Cond.selects (RN (mo 130)) (yn 130) (yn 130) ∈ AW_ := awT4 158 rfl rfl
theorem co131 : Cond.code (yn 131) (cc 131) (mL 131) (rt 131) ∈ AW_ := awT4 163 rfl rfl
theorem mk131 : MK 131 := ⟨in5, by decide +kernel, ⟨by decide +kernel, by decide +kernel⟩, by decide +kernel, by decide, Or.inl ⟨rfl, co131⟩⟩
theorem im131 : Cond.instanceMethod (yn 131) ∈ AW_ := awT4 161 rfl rfl
theorem se131 : Cond.selects (RN (mo 131)) (yn 131) (yn 131) ∈ AW_ := awT4 162 rfl rfl
theorem co132 : Cond.code (yn 132) (cc 132) (mL 132) (rt 132) ∈ AW_ := awT4 167 rfl rfl
theorem mk132 : MK 132 := ⟨in5, by decide +kernel, ⟨by decide +kernel, by decide +kernel⟩, by decide +kernel, by decide, Or.inl ⟨rfl, co132⟩⟩
theorem im132 : Cond.instanceMethod (yn 132) ∈ AW_ := awT4 166 rfl rfl
theorem se132 : Cond.selects (RN (mo 132)) (yn 132) (yn 132) ∈ AW_ := awP 42 rfl rfl
theorem lk6_77 : Cond.methodLink (RN 6) 77 (yn 0) ∈ AW_ := awT1 18 rfl rfl
theorem lk4_1 : Cond.methodLink (RN 4) 1 (Lib.objectInit) ∈ AW_ := awT1 21 rfl rfl
theorem lk0_3 : Cond.methodLink (RN 0) 3 (Lib.objectInit) ∈ AW_ := awT1 31 rfl rfl
theorem lk1_3 : Cond.methodLink (RN 1) 3 (Lib.objectInit) ∈ AW_ := awT1 62 rfl rfl
theorem lk3_3 : Cond.methodLink (RN 3) 3 (Lib.objectInit) ∈ AW_ := awT1 85 rfl rfl
theorem lk2_3 : Cond.methodLink (RN 2) 3 (Lib.objectInit) ∈ AW_ := awT1 104 rfl rfl
theorem lk6_116 : Cond.methodLink (RN 6) 116 (yn 5) ∈ AW_ := awT1 190 rfl rfl
theorem lk4_140 : Cond.methodLink (RN 4) 140 (yn 6) ∈ AW_ := awT1 194 rfl rfl
theorem lk4_219 : Cond.methodLink (RN 4) 219 (yn 7) ∈ AW_ := awT1 198 rfl rfl
theorem lk4_232 : Cond.methodLink (RN 4) 232 (yn 8) ∈ AW_ := awT1 202 rfl rfl
theorem lk4_238 : Cond.methodLink (RN 4) 238 (yn 9) ∈ AW_ := awT1 205 rfl rfl
theorem lk4_246 : Cond.methodLink (RN 4) 246 (yn 10) ∈ AW_ := awT1 209 rfl rfl
theorem lk4_98 : Cond.methodLink (RN 4) 98 (yn 11) ∈ AW_ := awT1 213 rfl rfl
theorem lk4_180 : Cond.methodLink (RN 4) 180 (yn 12) ∈ AW_ := awT1 216 rfl rfl
theorem lk4_259 : Cond.methodLink (RN 4) 259 (yn 13) ∈ AW_ := awT1 220 rfl rfl
theorem lk4_222 : Cond.methodLink (RN 4) 222 (yn 14) ∈ AW_ := awT1 226 rfl rfl
theorem lk4_226 : Cond.methodLink (RN 4) 226 (arraycopyName) ∈ AW_ := awT1 230 rfl rfl
theorem lk4_242 : Cond.methodLink (RN 4) 242 (yn 15) ∈ AW_ := awT1 233 rfl rfl
theorem lk3_25 : Cond.methodLink (RN 3) 25 (yn 16) ∈ AW_ := awT1 237 rfl rfl
theorem lk3_58 : Cond.methodLink (RN 3) 58 (Lib.MathLoose.max_long.x) ∈ AW_ := awT2 1 rfl rfl
theorem lk3_35 : Cond.methodLink (RN 3) 35 (yn 17) ∈ AW_ := awT2 4 rfl rfl
theorem lk3_78 : Cond.methodLink (RN 3) 78 (yn 18) ∈ AW_ := awT2 8 rfl rfl
theorem lk3_82 : Cond.methodLink (RN 3) 82 (yn 19) ∈ AW_ := awT2 12 rfl rfl
theorem lk3_42 : Cond.methodLink (RN 3) 42 (yn 20) ∈ AW_ := awT2 16 rfl rfl
theorem lk3_70 : Cond.methodLink (RN 3) 70 (yn 21) ∈ AW_ := awT2 20 rfl rfl
theorem lk3_74 : Cond.methodLink (RN 3) 74 (Lib.Math.min.name) ∈ AW_ := awT2 23 rfl rfl
theorem lk6_81 : Cond.methodLink (RN 6) 81 (yn 22) ∈ AW_ := awT2 26 rfl rfl
theorem lk6_7 : Cond.methodLink (RN 6) 7 (yn 23) ∈ AW_ := awT2 31 rfl rfl
theorem lk4_50 : Cond.methodLink (RN 4) 50 (yn 24) ∈ AW_ := awT2 35 rfl rfl
theorem lk4_95 : Cond.methodLink (RN 4) 95 (yn 25) ∈ AW_ := awT2 39 rfl rfl
theorem lk4_200 : Cond.methodLink (RN 4) 200 (Bundle.initS (EX 0)) ∈ AW_ := awT2 84 rfl rfl
theorem lk4_54 : Cond.methodLink (RN 4) 54 (yn 26) ∈ AW_ := awT2 110 rfl rfl
theorem lk4_211 : Cond.methodLink (RN 4) 211 (Bundle.initS (EX 1)) ∈ AW_ := awT2 123 rfl rfl
theorem lk6_91 : Cond.methodLink (RN 6) 91 (yn 27) ∈ AW_ := awT2 129 rfl rfl
theorem lk6_17 : Cond.methodLink (RN 6) 17 (yn 28) ∈ AW_ := awT2 132 rfl rfl
theorem lk6_95 : Cond.methodLink (RN 6) 95 (yn 29) ∈ AW_ := awT2 137 rfl rfl
theorem lk6_21 : Cond.methodLink (RN 6) 21 (yn 30) ∈ AW_ := awT2 140 rfl rfl
theorem lk4_85 : Cond.methodLink (RN 4) 85 (yn 31) ∈ AW_ := awT2 144 rfl rfl
theorem lk6_99 : Cond.methodLink (RN 6) 99 (yn 32) ∈ AW_ := awT2 148 rfl rfl
theorem lk6_25 : Cond.methodLink (RN 6) 25 (yn 33) ∈ AW_ := awT2 152 rfl rfl
theorem lk4_102 : Cond.methodLink (RN 4) 102 (yn 34) ∈ AW_ := awT2 156 rfl rfl
theorem lk0_35 : Cond.methodLink (RN 0) 35 (yn 35) ∈ AW_ := awT2 160 rfl rfl
theorem lk0_31 : Cond.methodLink (RN 0) 31 (yn 36) ∈ AW_ := awT2 164 rfl rfl
theorem lk0_44 : Cond.methodLink (RN 0) 44 (yn 37) ∈ AW_ := awT2 168 rfl rfl
theorem lk0_50 : Cond.methodLink (RN 0) 50 (yn 11) ∈ AW_ := awT2 171 rfl rfl
theorem lk0_54 : Cond.methodLink (RN 0) 54 (Lib.Math.max.name) ∈ AW_ := awT2 172 rfl rfl
theorem lk0_38 : Cond.methodLink (RN 0) 38 (arraycopyName) ∈ AW_ := awT2 175 rfl rfl
theorem lk4_105 : Cond.methodLink (RN 4) 105 (yn 38) ∈ AW_ := awT2 176 rfl rfl
theorem lk4_113 : Cond.methodLink (RN 4) 113 (Bundle.initS (EX 2)) ∈ AW_ := awT2 190 rfl rfl
theorem lk4_116 : Cond.methodLink (RN 4) 116 (yn 39) ∈ AW_ := awT2 196 rfl rfl
theorem lk6_102 : Cond.methodLink (RN 6) 102 (yn 40) ∈ AW_ := awT2 200 rfl rfl
theorem lk6_30 : Cond.methodLink (RN 6) 30 (yn 41) ∈ AW_ := awT2 203 rfl rfl
theorem lk6_106 : Cond.methodLink (RN 6) 106 (yn 42) ∈ AW_ := awT2 207 rfl rfl
theorem lk6_34 : Cond.methodLink (RN 6) 34 (yn 43) ∈ AW_ := awT2 210 rfl rfl
theorem lk4_123 : Cond.methodLink (RN 4) 123 (yn 44) ∈ AW_ := awT2 214 rfl rfl
theorem lk4_143 : Cond.methodLink (RN 4) 143 (yn 45) ∈ AW_ := awT2 218 rfl rfl
theorem lk4_173 : Cond.methodLink (RN 4) 173 (yn 46) ∈ AW_ := awT2 222 rfl rfl
theorem lk4_212 : Cond.methodLink (RN 4) 212 (yn 47) ∈ AW_ := awT2 225 rfl rfl
theorem lk4_177 : Cond.methodLink (RN 4) 177 (yn 48) ∈ AW_ := awT2 230 rfl rfl
theorem lk1_25 : Cond.methodLink (RN 1) 25 (yn 47) ∈ AW_ := awT2 234 rfl rfl
theorem lk6_110 : Cond.methodLink (RN 6) 110 (yn 49) ∈ AW_ := awT2 235 rfl rfl
theorem lk6_38 : Cond.methodLink (RN 6) 38 (yn 50) ∈ AW_ := awT2 238 rfl rfl
theorem lk4_127 : Cond.methodLink (RN 4) 127 (yn 51) ∈ AW_ := awT3 2 rfl rfl
theorem lk4_134 : Cond.methodLink (RN 4) 134 (yn 52) ∈ AW_ := awT3 6 rfl rfl
theorem lk6_113 : Cond.methodLink (RN 6) 113 (yn 53) ∈ AW_ := awT3 10 rfl rfl
theorem lk6_41 : Cond.methodLink (RN 6) 41 (yn 54) ∈ AW_ := awT3 13 rfl rfl
theorem lk6_120 : Cond.methodLink (RN 6) 120 (yn 55) ∈ AW_ := awT3 17 rfl rfl
theorem lk6_44 : Cond.methodLink (RN 6) 44 (yn 56) ∈ AW_ := awT3 20 rfl rfl
theorem lk6_124 : Cond.methodLink (RN 6) 124 (yn 57) ∈ AW_ := awT3 24 rfl rfl
theorem lk6_48 : Cond.methodLink (RN 6) 48 (yn 58) ∈ AW_ := awT3 27 rfl rfl
theorem lk4_146 : Cond.methodLink (RN 4) 146 (yn 59) ∈ AW_ := awT3 31 rfl rfl
theorem lk4_192 : Cond.methodLink (RN 4) 192 (yn 60) ∈ AW_ := awT3 35 rfl rfl
theorem lk6_127 : Cond.methodLink (RN 6) 127 (yn 61) ∈ AW_ := awT3 40 rfl rfl
theorem lk6_52 : Cond.methodLink (RN 6) 52 (yn 62) ∈ AW_ := awT3 43 rfl rfl
theorem lk6_130 : Cond.methodLink (RN 6) 130 (yn 63) ∈ AW_ := awT3 47 rfl rfl
theorem lk6_55 : Cond.methodLink (RN 6) 55 (yn 64) ∈ AW_ := awT3 50 rfl rfl
theorem lk6_133 : Cond.methodLink (RN 6) 133 (yn 65) ∈ AW_ := awT3 54 rfl rfl
theorem lk6_58 : Cond.methodLink (RN 6) 58 (yn 66) ∈ AW_ := awT3 57 rfl rfl
theorem lk4_158 : Cond.methodLink (RN 4) 158 (yn 67) ∈ AW_ := awT3 61 rfl rfl
theorem lk4_266 : Cond.methodLink (RN 4) 266 (yn 68) ∈ AW_ := awT3 65 rfl rfl
theorem lk4_269 : Cond.methodLink (RN 4) 269 (yn 69) ∈ AW_ := awT3 69 rfl rfl
theorem lk4_272 : Cond.methodLink (RN 4) 272 (yn 70) ∈ AW_ := awT3 73 rfl rfl
theorem lk4_165 : Cond.methodLink (RN 4) 165 (yn 71) ∈ AW_ := awT3 76 rfl rfl
theorem lk4_279 : Cond.methodLink (RN 4) 279 (Lib.MathLoose.max_long.x) ∈ AW_ := awT3 80 rfl rfl
theorem lk4_285 : Cond.methodLink (RN 4) 285 (Lib.MathLoose.min_long.x) ∈ AW_ := awT3 81 rfl rfl
theorem lk4_162 : Cond.methodLink (RN 4) 162 (yn 72) ∈ AW_ := awT3 84 rfl rfl
theorem lk6_136 : Cond.methodLink (RN 6) 136 (yn 73) ∈ AW_ := awT3 88 rfl rfl
theorem lk6_62 : Cond.methodLink (RN 6) 62 (yn 74) ∈ AW_ := awT3 91 rfl rfl
theorem lk4_169 : Cond.methodLink (RN 4) 169 (yn 75) ∈ AW_ := awT3 95 rfl rfl
theorem lk6_139 : Cond.methodLink (RN 6) 139 (yn 76) ∈ AW_ := awT3 99 rfl rfl
theorem lk6_65 : Cond.methodLink (RN 6) 65 (yn 77) ∈ AW_ := awT3 102 rfl rfl
theorem lk6_142 : Cond.methodLink (RN 6) 142 (yn 78) ∈ AW_ := awT3 106 rfl rfl
theorem lk6_68 : Cond.methodLink (RN 6) 68 (yn 79) ∈ AW_ := awT3 109 rfl rfl
theorem lk6_145 : Cond.methodLink (RN 6) 145 (yn 80) ∈ AW_ := awT3 113 rfl rfl
theorem lk6_71 : Cond.methodLink (RN 6) 71 (yn 81) ∈ AW_ := awT3 116 rfl rfl
theorem lk6_148 : Cond.methodLink (RN 6) 148 (yn 82) ∈ AW_ := awT3 120 rfl rfl
theorem lk6_74 : Cond.methodLink (RN 6) 74 (yn 83) ∈ AW_ := awT3 123 rfl rfl
theorem lk4_188 : Cond.methodLink (RN 4) 188 (yn 84) ∈ AW_ := awT3 127 rfl rfl
theorem lk4_288 : Cond.methodLink (RN 4) 288 (yn 85) ∈ AW_ := awT3 131 rfl rfl
theorem lk6_80 : Cond.methodLink (RN 6) 80 (yn 86) ∈ AW_ := awT3 137 rfl rfl
theorem lk5_1 : Cond.methodLink (RN 5) 1 (Lib.objectInit) ∈ AW_ := awT3 140 rfl rfl
theorem lk6_87 : Cond.methodLink (RN 6) 87 (yn 87) ∈ AW_ := awT3 224 rfl rfl
theorem lk6_86 : Cond.methodLink (RN 6) 86 (yn 88) ∈ AW_ := awT3 228 rfl rfl
theorem lk5_89 : Cond.methodLink (RN 5) 89 (yn 89) ∈ AW_ := awT3 232 rfl rfl
theorem lk5_93 : Cond.methodLink (RN 5) 93 (yn 90) ∈ AW_ := awT3 235 rfl rfl
theorem lk5_97 : Cond.methodLink (RN 5) 97 (yn 91) ∈ AW_ := awT3 238 rfl rfl
theorem lk5_100 : Cond.methodLink (RN 5) 100 (yn 92) ∈ AW_ := awT4 2 rfl rfl
theorem lk6_94 : Cond.methodLink (RN 6) 94 (yn 93) ∈ AW_ := awT4 6 rfl rfl
theorem lk6_98 : Cond.methodLink (RN 6) 98 (yn 94) ∈ AW_ := awT4 11 rfl rfl
theorem lk6_101 : Cond.methodLink (RN 6) 101 (yn 95) ∈ AW_ := awT4 15 rfl rfl
theorem lk5_112 : Cond.methodLink (RN 5) 112 (yn 96) ∈ AW_ := awT4 19 rfl rfl
theorem lk5_116 : Cond.methodLink (RN 5) 116 (yn 97) ∈ AW_ := awT4 23 rfl rfl
theorem lk5_105 : Cond.methodLink (RN 5) 105 (yn 98) ∈ AW_ := awT4 27 rfl rfl
theorem lk6_105 : Cond.methodLink (RN 6) 105 (yn 99) ∈ AW_ := awT4 31 rfl rfl
theorem lk6_109 : Cond.methodLink (RN 6) 109 (yn 100) ∈ AW_ := awT4 35 rfl rfl
theorem lk5_124 : Cond.methodLink (RN 5) 124 (yn 101) ∈ AW_ := awT4 39 rfl rfl
theorem lk5_120 : Cond.methodLink (RN 5) 120 (yn 102) ∈ AW_ := awT4 43 rfl rfl
theorem lk6_115 : Cond.methodLink (RN 6) 115 (yn 103) ∈ AW_ := awT4 47 rfl rfl
theorem lk6_112 : Cond.methodLink (RN 6) 112 (yn 104) ∈ AW_ := awT4 51 rfl rfl
theorem lk6_119 : Cond.methodLink (RN 6) 119 (yn 105) ∈ AW_ := awT4 55 rfl rfl
theorem lk5_176 : Cond.methodLink (RN 5) 176 (yn 106) ∈ AW_ := awT4 59 rfl rfl
theorem lk5_170 : Cond.methodLink (RN 5) 170 (yn 107) ∈ AW_ := awT4 63 rfl rfl
theorem lk5_127 : Cond.methodLink (RN 5) 127 (yn 108) ∈ AW_ := awT4 67 rfl rfl
theorem lk5_139 : Cond.methodLink (RN 5) 139 (yn 109) ∈ AW_ := awT4 71 rfl rfl
theorem lk5_173 : Cond.methodLink (RN 5) 173 (yn 110) ∈ AW_ := awT4 77 rfl rfl
theorem lk5_157 : Cond.methodLink (RN 5) 157 (yn 111) ∈ AW_ := awT4 81 rfl rfl
theorem lk5_143 : Cond.methodLink (RN 5) 143 (yn 112) ∈ AW_ := awT4 85 rfl rfl
theorem lk5_131 : Cond.methodLink (RN 5) 131 (yn 113) ∈ AW_ := awT4 89 rfl rfl
theorem lk5_160 : Cond.methodLink (RN 5) 160 (yn 114) ∈ AW_ := awT4 92 rfl rfl
theorem lk5_153 : Cond.methodLink (RN 5) 153 (yn 115) ∈ AW_ := awT4 96 rfl rfl
theorem lk5_150 : Cond.methodLink (RN 5) 150 (yn 116) ∈ AW_ := awT4 100 rfl rfl
theorem lk5_146 : Cond.methodLink (RN 5) 146 (yn 117) ∈ AW_ := awT4 104 rfl rfl
theorem lk5_163 : Cond.methodLink (RN 5) 163 (yn 118) ∈ AW_ := awT4 108 rfl rfl
theorem lk6_123 : Cond.methodLink (RN 6) 123 (yn 119) ∈ AW_ := awT4 112 rfl rfl
theorem lk6_126 : Cond.methodLink (RN 6) 126 (yn 120) ∈ AW_ := awT4 116 rfl rfl
theorem lk5_179 : Cond.methodLink (RN 5) 179 (yn 121) ∈ AW_ := awT4 120 rfl rfl
theorem lk6_129 : Cond.methodLink (RN 6) 129 (yn 122) ∈ AW_ := awT4 124 rfl rfl
theorem lk6_132 : Cond.methodLink (RN 6) 132 (yn 123) ∈ AW_ := awT4 128 rfl rfl
theorem lk6_135 : Cond.methodLink (RN 6) 135 (yn 124) ∈ AW_ := awT4 132 rfl rfl
theorem lk5_183 : Cond.methodLink (RN 5) 183 (yn 125) ∈ AW_ := awT4 136 rfl rfl
theorem lk6_138 : Cond.methodLink (RN 6) 138 (yn 126) ∈ AW_ := awT4 140 rfl rfl
theorem lk5_186 : Cond.methodLink (RN 5) 186 (yn 127) ∈ AW_ := awT4 144 rfl rfl
theorem lk6_141 : Cond.methodLink (RN 6) 141 (yn 128) ∈ AW_ := awT4 148 rfl rfl
theorem lk6_144 : Cond.methodLink (RN 6) 144 (yn 129) ∈ AW_ := awT4 152 rfl rfl
theorem lk6_147 : Cond.methodLink (RN 6) 147 (yn 130) ∈ AW_ := awT4 156 rfl rfl
theorem lk6_150 : Cond.methodLink (RN 6) 150 (yn 131) ∈ AW_ := awT4 160 rfl rfl
theorem lk5_189 : Cond.methodLink (RN 5) 189 (yn 132) ∈ AW_ := awT4 164 rfl rfl
theorem w_static_LibMathLoosemax_longx : Cond.static (Lib.MathLoose.max_long.x) ∈ AW_ := awT2 2 rfl rfl
theorem w_code_LibMathLoosemax_longx : Cond.code (Lib.MathLoose.max_long.x) Lib.MathLoose.max_long.code 4 (some .long) ∈ AW_ := awT2 3 rfl rfl
theorem w_static_LibMathLoosemin_longx : Cond.static (Lib.MathLoose.min_long.x) ∈ AW_ := awT3 82 rfl rfl
theorem w_code_LibMathLoosemin_longx : Cond.code (Lib.MathLoose.min_long.x) Lib.MathLoose.min_long.code 4 (some .long) ∈ AW_ := awT3 83 rfl rfl
theorem w_static_LibMathmaxname : Cond.static (Lib.Math.max.name) ∈ AW_ := awT2 173 rfl rfl
theorem w_code_LibMathmaxname : Cond.code (Lib.Math.max.name) Lib.Math.max.code 2 (some .int) ∈ AW_ := awT2 174 rfl rfl
theorem w_static_LibMathminname : Cond.static (Lib.Math.min.name) ∈ AW_ := awT2 24 rfl rfl
theorem w_code_LibMathminname : Cond.code (Lib.Math.min.name) Lib.Math.min.code 2 (some .int) ∈ AW_ := awT2 25 rfl rfl
theorem w_instanceMethod_LibobjectInit : Cond.instanceMethod (Lib.objectInit) ∈ AW_ := awT1 22 rfl rfl
theorem w_code_LibobjectInit : Cond.code (Lib.objectInit) ⟨#[0xb1]⟩ 1 none ∈ AW_ := awT1 23 rfl rfl
theorem w_static_arraycopyName : Cond.static (arraycopyName) ∈ AW_ := awT1 231 rfl rfl
theorem w_native_arraycopyName : Cond.native (arraycopyName) ∈ AW_ := awT1 232 rfl rfl
theorem gf0_9 : GF 0 9 0 0 := fun C T N h => by cases h; exact ⟨by decide, awT1 32 rfl rfl, rfl, rfl⟩
theorem gf4_250 : GF 4 250 0 0 := fun C T N h => by cases h; exact ⟨by decide, awT1 33 rfl rfl, rfl, rfl⟩
theorem gf0_15 : GF 0 15 0 1 := fun C T N h => by cases h; exact ⟨by decide, awT1 34 rfl rfl, rfl, rfl⟩
theorem gf4_253 : GF 4 253 0 1 := fun C T N h => by cases h; exact ⟨by decide, awT1 35 rfl rfl, rfl, rfl⟩
theorem gf0_18 : GF 0 18 0 2 := fun C T N h => by cases h; exact ⟨by decide, awT1 36 rfl rfl, rfl, rfl⟩
theorem gf4_256 : GF 4 256 0 2 := fun C T N h => by cases h; exact ⟨by decide, awT1 37 rfl rfl, rfl, rfl⟩
theorem gf0_21 : GF 0 21 0 3 := fun C T N h => by cases h; exact ⟨by decide, awT1 38 rfl rfl, rfl, rfl⟩
theorem gf4_137 : GF 4 137 0 3 := fun C T N h => by cases h; exact ⟨by decide, awT1 39 rfl rfl, rfl, rfl⟩
theorem gf0_24 : GF 0 24 0 4 := fun C T N h => by cases h; exact ⟨by decide, awT1 40 rfl rfl, rfl, rfl⟩
theorem gf0_27 : GF 0 27 0 5 := fun C T N h => by cases h; exact ⟨by decide, awT1 41 rfl rfl, rfl, rfl⟩
theorem gf4_184 : GF 4 184 0 5 := fun C T N h => by cases h; exact ⟨by decide, awT1 42 rfl rfl, rfl, rfl⟩
theorem gf1_9 : GF 1 9 1 0 := fun C T N h => by cases h; exact ⟨by decide, awT1 63 rfl rfl, rfl, rfl⟩
theorem gf4_131 : GF 4 131 1 0 := fun C T N h => by cases h; exact ⟨by decide, awT1 64 rfl rfl, rfl, rfl⟩
theorem gf1_15 : GF 1 15 1 1 := fun C T N h => by cases h; exact ⟨by decide, awT1 65 rfl rfl, rfl, rfl⟩
theorem gf4_263 : GF 4 263 1 1 := fun C T N h => by cases h; exact ⟨by decide, awT1 66 rfl rfl, rfl, rfl⟩
theorem gf1_18 : GF 1 18 1 2 := fun C T N h => by cases h; exact ⟨by decide, awT1 67 rfl rfl, rfl, rfl⟩
theorem gf4_276 : GF 4 276 1 2 := fun C T N h => by cases h; exact ⟨by decide, awT1 68 rfl rfl, rfl, rfl⟩
theorem gf1_21 : GF 1 21 1 3 := fun C T N h => by cases h; exact ⟨by decide, awT1 69 rfl rfl, rfl, rfl⟩
theorem gf4_187 : GF 4 187 1 3 := fun C T N h => by cases h; exact ⟨by decide, awT1 70 rfl rfl, rfl, rfl⟩
theorem gf3_9 : GF 3 9 3 0 := fun C T N h => by cases h; exact ⟨by decide, awT1 86 rfl rfl, rfl, rfl⟩
theorem gf3_15 : GF 3 15 3 1 := fun C T N h => by cases h; exact ⟨by decide, awT1 87 rfl rfl, rfl, rfl⟩
theorem gf3_18 : GF 3 18 3 2 := fun C T N h => by cases h; exact ⟨by decide, awT1 88 rfl rfl, rfl, rfl⟩
theorem gf3_21 : GF 3 21 3 3 := fun C T N h => by cases h; exact ⟨by decide, awT1 89 rfl rfl, rfl, rfl⟩
theorem gf3_29 : GF 3 29 2 0 := fun C T N h => by cases h; exact ⟨by decide, awT1 105 rfl rfl, rfl, rfl⟩
theorem gf4_58 : GF 4 58 2 0 := fun C T N h => by cases h; exact ⟨by decide, awT1 106 rfl rfl, rfl, rfl⟩
theorem gf2_9 : GF 2 9 2 1 := fun C T N h => by cases h; exact ⟨by decide, awT1 107 rfl rfl, rfl, rfl⟩
theorem gf4_62 : GF 4 62 2 1 := fun C T N h => by cases h; exact ⟨by decide, awT1 108 rfl rfl, rfl, rfl⟩
theorem gf3_67 : GF 3 67 2 1 := fun C T N h => by cases h; exact ⟨by decide, awT1 109 rfl rfl, rfl, rfl⟩
theorem gf2_29 : GF 2 29 2 2 := fun C T N h => by cases h; exact ⟨by decide, awT1 110 rfl rfl, rfl, rfl⟩
theorem gf4_65 : GF 4 65 2 2 := fun C T N h => by cases h; exact ⟨by decide, awT1 111 rfl rfl, rfl, rfl⟩
theorem gf3_64 : GF 3 64 2 2 := fun C T N h => by cases h; exact ⟨by decide, awT1 112 rfl rfl, rfl, rfl⟩
theorem gf4_68 : GF 4 68 2 3 := fun C T N h => by cases h; exact ⟨by decide, awT1 113 rfl rfl, rfl, rfl⟩
theorem gf3_55 : GF 3 55 2 3 := fun C T N h => by cases h; exact ⟨by decide, awT1 114 rfl rfl, rfl, rfl⟩
theorem gf2_32 : GF 2 32 2 4 := fun C T N h => by cases h; exact ⟨by decide, awT1 115 rfl rfl, rfl, rfl⟩
theorem gf4_76 : GF 4 76 2 4 := fun C T N h => by cases h; exact ⟨by decide, awT1 116 rfl rfl, rfl, rfl⟩
theorem gf4_79 : GF 4 79 2 5 := fun C T N h => by cases h; exact ⟨by decide, awT1 117 rfl rfl, rfl, rfl⟩
theorem gf3_86 : GF 3 86 2 5 := fun C T N h => by cases h; exact ⟨by decide, awT1 118 rfl rfl, rfl, rfl⟩
theorem gf4_82 : GF 4 82 2 6 := fun C T N h => by cases h; exact ⟨by decide, awT1 119 rfl rfl, rfl, rfl⟩
theorem gf3_89 : GF 3 89 2 6 := fun C T N h => by cases h; exact ⟨by decide, awT1 120 rfl rfl, rfl, rfl⟩
theorem gf3_49 : GF 3 49 2 7 := fun C T N h => by cases h; exact ⟨by decide, awT1 121 rfl rfl, rfl, rfl⟩
theorem gf4_120 : GF 4 120 2 7 := fun C T N h => by cases h; exact ⟨by decide, awT1 122 rfl rfl, rfl, rfl⟩
theorem gf4_89 : GF 4 89 2 8 := fun C T N h => by cases h; exact ⟨by decide, awT1 123 rfl rfl, rfl, rfl⟩
theorem gf4_92 : GF 4 92 2 9 := fun C T N h => by cases h; exact ⟨by decide, awT1 124 rfl rfl, rfl, rfl⟩
theorem gf2_15 : GF 2 15 2 10 := fun C T N h => by cases h; exact ⟨by decide, awT1 125 rfl rfl, rfl, rfl⟩
theorem gf4_71 : GF 4 71 2 10 := fun C T N h => by cases h; exact ⟨by decide, awT1 126 rfl rfl, rfl, rfl⟩
theorem gf2_19 : GF 2 19 2 11 := fun C T N h => by cases h; exact ⟨by decide, awT1 127 rfl rfl, rfl, rfl⟩
theorem gf3_52 : GF 3 52 2 11 := fun C T N h => by cases h; exact ⟨by decide, awT1 128 rfl rfl, rfl, rfl⟩
theorem gf4_149 : GF 4 149 2 11 := fun C T N h => by cases h; exact ⟨by decide, awT1 129 rfl rfl, rfl, rfl⟩
theorem gf2_23 : GF 2 23 2 12 := fun C T N h => by cases h; exact ⟨by decide, awT1 130 rfl rfl, rfl, rfl⟩
theorem gf3_39 : GF 3 39 2 12 := fun C T N h => by cases h; exact ⟨by decide, awT1 131 rfl rfl, rfl, rfl⟩
theorem gf4_152 : GF 4 152 2 12 := fun C T N h => by cases h; exact ⟨by decide, awT1 132 rfl rfl, rfl, rfl⟩
theorem gf2_26 : GF 2 26 2 13 := fun C T N h => by cases h; exact ⟨by decide, awT1 133 rfl rfl, rfl, rfl⟩
theorem gf3_46 : GF 3 46 2 13 := fun C T N h => by cases h; exact ⟨by decide, awT1 134 rfl rfl, rfl, rfl⟩
theorem gf4_155 : GF 4 155 2 13 := fun C T N h => by cases h; exact ⟨by decide, awT1 135 rfl rfl, rfl, rfl⟩
theorem gf4_11 : GF 4 11 4 0 := fun C T N h => by cases h; exact ⟨by decide, awT1 165 rfl rfl, rfl, rfl⟩
theorem gf4_18 : GF 4 18 4 1 := fun C T N h => by cases h; exact ⟨by decide, awT1 166 rfl rfl, rfl, rfl⟩
theorem gf4_25 : GF 4 25 4 2 := fun C T N h => by cases h; exact ⟨by decide, awT1 167 rfl rfl, rfl, rfl⟩
theorem gf4_29 : GF 4 29 4 3 := fun C T N h => by cases h; exact ⟨by decide, awT1 168 rfl rfl, rfl, rfl⟩
theorem gf4_32 : GF 4 32 4 4 := fun C T N h => by cases h; exact ⟨by decide, awT1 169 rfl rfl, rfl, rfl⟩
theorem gf4_38 : GF 4 38 4 5 := fun C T N h => by cases h; exact ⟨by decide, awT1 170 rfl rfl, rfl, rfl⟩
theorem gf4_42 : GF 4 42 4 6 := fun C T N h => by cases h; exact ⟨by decide, awT1 171 rfl rfl, rfl, rfl⟩
theorem gf4_46 : GF 4 46 4 7 := fun C T N h => by cases h; exact ⟨by decide, awT1 172 rfl rfl, rfl, rfl⟩
theorem gf5_85 : GF 5 85 5 0 := fun C T N h => by cases h; exact ⟨by decide, awT3 141 rfl rfl, rfl, rfl⟩
theorem gf5_7 : GF 5 7 5 1 := fun C T N h => by cases h; exact ⟨by decide, awT3 142 rfl rfl, rfl, rfl⟩
theorem gf5_13 : GF 5 13 5 2 := fun C T N h => by cases h; exact ⟨by decide, awT3 143 rfl rfl, rfl, rfl⟩
theorem gf5_16 : GF 5 16 5 3 := fun C T N h => by cases h; exact ⟨by decide, awT3 144 rfl rfl, rfl, rfl⟩
theorem gf5_19 : GF 5 19 5 4 := fun C T N h => by cases h; exact ⟨by decide, awT3 145 rfl rfl, rfl, rfl⟩
theorem gf5_22 : GF 5 22 5 5 := fun C T N h => by cases h; exact ⟨by decide, awT3 146 rfl rfl, rfl, rfl⟩
theorem gf5_25 : GF 5 25 5 6 := fun C T N h => by cases h; exact ⟨by decide, awT3 147 rfl rfl, rfl, rfl⟩
theorem gf5_28 : GF 5 28 5 7 := fun C T N h => by cases h; exact ⟨by decide, awT3 148 rfl rfl, rfl, rfl⟩
theorem gf5_31 : GF 5 31 5 8 := fun C T N h => by cases h; exact ⟨by decide, awT3 149 rfl rfl, rfl, rfl⟩
theorem gf5_34 : GF 5 34 5 9 := fun C T N h => by cases h; exact ⟨by decide, awT3 150 rfl rfl, rfl, rfl⟩
theorem gf5_37 : GF 5 37 5 10 := fun C T N h => by cases h; exact ⟨by decide, awT3 151 rfl rfl, rfl, rfl⟩
theorem gf5_40 : GF 5 40 5 11 := fun C T N h => by cases h; exact ⟨by decide, awT3 152 rfl rfl, rfl, rfl⟩
theorem gf5_43 : GF 5 43 5 12 := fun C T N h => by cases h; exact ⟨by decide, awT3 153 rfl rfl, rfl, rfl⟩
theorem gf5_46 : GF 5 46 5 13 := fun C T N h => by cases h; exact ⟨by decide, awT3 154 rfl rfl, rfl, rfl⟩
theorem gf5_109 : GF 5 109 5 14 := fun C T N h => by cases h; exact ⟨by decide, awT3 155 rfl rfl, rfl, rfl⟩
theorem gf5_49 : GF 5 49 5 15 := fun C T N h => by cases h; exact ⟨by decide, awT3 156 rfl rfl, rfl, rfl⟩
theorem gf5_52 : GF 5 52 5 16 := fun C T N h => by cases h; exact ⟨by decide, awT3 157 rfl rfl, rfl, rfl⟩
theorem gf5_55 : GF 5 55 5 17 := fun C T N h => by cases h; exact ⟨by decide, awT3 158 rfl rfl, rfl, rfl⟩
theorem gf5_58 : GF 5 58 5 18 := fun C T N h => by cases h; exact ⟨by decide, awT3 159 rfl rfl, rfl, rfl⟩
theorem gf5_167 : GF 5 167 5 19 := fun C T N h => by cases h; exact ⟨by decide, awT3 160 rfl rfl, rfl, rfl⟩
theorem gf5_61 : GF 5 61 5 20 := fun C T N h => by cases h; exact ⟨by decide, awT3 161 rfl rfl, rfl, rfl⟩
theorem gf5_65 : GF 5 65 5 21 := fun C T N h => by cases h; exact ⟨by decide, awT3 162 rfl rfl, rfl, rfl⟩
theorem gf5_69 : GF 5 69 5 22 := fun C T N h => by cases h; exact ⟨by decide, awT3 163 rfl rfl, rfl, rfl⟩
theorem gf5_73 : GF 5 73 5 23 := fun C T N h => by cases h; exact ⟨by decide, awT3 164 rfl rfl, rfl, rfl⟩
theorem gf5_76 : GF 5 76 5 24 := fun C T N h => by cases h; exact ⟨by decide, awT3 165 rfl rfl, rfl, rfl⟩
theorem gf5_79 : GF 5 79 5 25 := fun C T N h => by cases h; exact ⟨by decide, awT3 166 rfl rfl, rfl, rfl⟩
theorem gf5_82 : GF 5 82 5 26 := fun C T N h => by cases h; exact ⟨by decide, awT3 167 rfl rfl, rfl, rfl⟩
theorem cn2_35 : Cond.constantLong (RN 2) 35 (Int64.ofNat 999) ∈ AW_ := awT1 224 rfl rfl
theorem cn2_37 : Cond.constantLong (RN 2) 37 (Int64.ofNat 1000) ∈ AW_ := awT1 225 rfl rfl
theorem cn4_75 : Cond.constant (RN 4) 75 (nI 100000) ∈ AW_ := awT2 136 rfl rfl
theorem cn5_104 : Cond.constant (RN 5) 104 (nI 100000) ∈ AW_ := awT4 10 rfl rfl
theorem cn5_135 : Cond.constantLong (RN 5) 135 (Int64.ofNat 1000) ∈ AW_ := awT4 75 rfl rfl
theorem cn5_137 : Cond.constantLong (RN 5) 137 (Int64.ofNat 999) ∈ AW_ := awT4 76 rfl rfl
theorem cl6_8 : Cond.classLink (RN 6) 8 (RN 4) ∈ AW_ := awT1 16 rfl rfl
theorem it4 : Cond.instantiable (RN 4) (fn 4) ∈ AW_ := awT1 17 rfl rfl
theorem cl4_9 : Cond.classLink (RN 4) 9 (RN 2) ∈ AW_ := awT1 24 rfl rfl
theorem cl4_15 : Cond.classLink (RN 4) 15 (RN 0) ∈ AW_ := awT1 26 rfl rfl
theorem it0 : Cond.instantiable (RN 0) (fn 0) ∈ AW_ := awT1 27 rfl rfl
theorem ac_int : Cond.arrayClass .int ∈ AW_ := awT1 56 rfl rfl
theorem cl4_22 : Cond.classLink (RN 4) 22 (RN 1) ∈ AW_ := awT1 57 rfl rfl
theorem it1 : Cond.instantiable (RN 1) (fn 1) ∈ AW_ := awT1 58 rfl rfl
theorem cl4_35 : Cond.classLink (RN 4) 35 (RN 3) ∈ AW_ := awT1 80 rfl rfl
theorem it3 : Cond.instantiable (RN 3) (fn 3) ∈ AW_ := awT1 81 rfl rfl
theorem ac_long : Cond.arrayClass .long ∈ AW_ := awT1 99 rfl rfl
theorem it2 : Cond.instantiable (RN 2) (fn 2) ∈ AW_ := awT1 100 rfl rfl
theorem cl6_13 : Cond.classLink (RN 6) 13 (EX 0) ∈ AW_ := awT2 29 rfl rfl
theorem cl6_15 : Cond.classLink (RN 6) 15 (EX 1) ∈ AW_ := awT2 30 rfl rfl
theorem cl4_196 : Cond.classLink (RN 4) 196 (EX 0) ∈ AW_ := awT2 42 rfl rfl
theorem itE0 : Cond.instantiable (EX 0) 6 ∈ AW_ := awT2 43 rfl rfl
theorem ac_byte : Cond.arrayClass .byte ∈ AW_ := awT2 109 rfl rfl
theorem cl4_207 : Cond.classLink (RN 4) 207 (EX 1) ∈ AW_ := awT2 113 rfl rfl
theorem itE1 : Cond.instantiable (EX 1) 6 ∈ AW_ := awT2 114 rfl rfl
theorem cl6_28 : Cond.classLink (RN 6) 28 (EX 2) ∈ AW_ := awT2 151 rfl rfl
theorem cl4_109 : Cond.classLink (RN 4) 109 (EX 2) ∈ AW_ := awT2 180 rfl rfl
theorem itE2 : Cond.instantiable (EX 2) 6 ∈ AW_ := awT2 181 rfl rfl
theorem cl6_78 : Cond.classLink (RN 6) 78 (RN 5) ∈ AW_ := awT3 135 rfl rfl
theorem it5 : Cond.instantiable (RN 5) (fn 5) ∈ AW_ := awT3 136 rfl rfl
theorem ac_boolean : Cond.arrayClass .boolean ∈ AW_ := awT3 223 rfl rfl
