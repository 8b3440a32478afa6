/-! ===== the survey: what every place holds ===== -/
def sz_r (n : Nat) : sy_FS := (3, Int.ofNat n, 0)
def sz_f0 : sy_FS := (0, (-2147483648), 2147483647)
def sz_f1 : sy_FS := (0, 0, 1)
def sz_f2 : sy_FS := (0, 0, 400)
def sz_f3 : sy_FS := (0, 0, 401)
def sz_f4 : sy_FS := (0, (-1), 400)
def sz_f5 : sy_FS := (0, 0, 4)
def sz_f6 : sy_FS := (0, 0, 12)
def sz_f7 : sy_FS := (0, 8, 8)
def sz_f8 : sy_FS := (0, 0, 8)
def sz_f9 : sy_FS := (0, 60, 60)
def sz_f10 : sy_FS := (0, 0, 60)
def sz_f11 : sy_FS := (1, (-9223372036854775808), 9223372036854775807)
def sz_f12 : sy_FS := (0, (-1), 3)
def sz_f13 : sy_FS := (0, 0, 3)
def sz_f14 : sy_FS := (0, (-9999), 9999)
def sz_f15 : sy_FS := (0, 0, 2)
def sz_f16 : sy_FS := (0, (-1), 1)
def sz_f17 : sy_FS := (0, 0, 50)
def sz_f18 : sy_FS := (0, (-1), 240)
def sz_f19 : sy_FS := (0, 0, 999)
def sz_f20 : sy_FS := (0, 0, 240)
def sz_f21 : sy_FS := (0, (-128), 127)
def sz_f22 : sy_FS := (2, (-46768052394588893382517914646921056628989841375232), 46768052394588893382517914646921056628989841375232)
def sz_f23 : sy_FS := (2, (-1461501637330902918203684832716283019655932542976), 1461501637330902918203684832716283019655932542976)
def sz_f24 : sy_FS := (2, (-1809251394333065553493296640760748560207343510400633813116524750123642650624), 1809251394333065553493296640760748560207343510400633813116524750123642650624)
def sz_f25 : sy_FS := (2, (-1361129467683753853853498429727072845824), 1361129467683753853853498429727072845824)
def sz_f26 : sy_FS := (2, (-340282366920938463463374607431768211456), 340282366920938463463374607431768211456)
def sz_f27 : sy_FS := (2, (-18446744073709551616), 18446744073709551616)
def sz_f28 : sy_FS := (2, (-9999), 9999)
def sz_f29 : sy_FS := (2, (-1237940039285380274899124224), 1237940039285380274899124224)
def sz_f30 : sy_FS := (0, (-1), 200)
def sz_f31 : sy_FS := (0, 0, 9)
def sz_f32 : sy_FS := (0, (-200), 201)
def sz_f33 : sy_FS := (1, 0, 4)
def sz_f34 : sy_FS := (1, 0, 12)
def sz_f35 : sy_FS := (1, 0, 8)
def sz_f36 : sy_FS := (1, 0, 60)
def sz_f37 : sy_FS := (1, 0, 2)
def sz_f38 : sy_FS := (1, (-9999), 9999)
def sz_f39 : sy_FS := (1, (-1), 0)
def sz_f40 : sy_FS := (1, 0, 3)
def sz_f41 : sy_FS := (1, (-1), 9999)
def sz_f42 : sy_FS := (1, (-1), 240)
def sz_f43 : sy_FS := (1, (-2559744), 2559744)
def sz_f44 : sy_FS := (1, 0, 1)
def sz_f45 : sy_FS := (1, (-1), 1)
def sz_f46 : sy_FS := (1, 0, 240)
def sz_f47 : sy_FS := (1, 0, 999)
def sz_f48 : sy_FS := (1, (-1), 2)
def sz_f49 : sy_FS := (2, (-67108864), 67108864)
set_option maxRecDepth 100000 in
def sz_q0 : sy_C := (true, 10, 8, .inr [(sz_r 1), sz_f0, (sz_r 59), (sz_r 115), sz_f1, (sz_r 171), (sz_r 227), (sz_r 241)])
set_option maxRecDepth 100000 in
def sz_q1 : sy_C := (true, 4, 7, .inr [(sz_r 2), sz_f2, (sz_r 58), sz_f2, sz_f3, sz_f2, sz_f4])
set_option maxRecDepth 100000 in
def sz_q2 : sy_C := (true, 0, 8, .inr [(sz_r 3), sz_f5, sz_f6, sz_f0, (sz_r 4), (sz_r 6), (sz_r 8), (sz_r 9)])
set_option maxRecDepth 100000 in
def sz_q3 : sy_C := (false, 5, 4, .inr [(sz_r 10), (sz_r 22), (sz_r 34), (sz_r 46)])
set_option maxRecDepth 100000 in
def sz_q4 : sy_C := (true, 7, 3, .inr [(sz_r 5), sz_f7, sz_f8])
set_option maxRecDepth 100000 in
def sz_q5 : sy_C := (false, 0, 32, .inl sz_f0)
set_option maxRecDepth 100000 in
def sz_q6 : sy_C := (true, 7, 3, .inr [(sz_r 7), sz_f9, sz_f10])
set_option maxRecDepth 100000 in
def sz_q7 : sy_C := (false, 0, 240, .inl sz_f0)
set_option maxRecDepth 100000 in
def sz_q8 : sy_C := (false, 1, 4, .inl sz_f11)
set_option maxRecDepth 100000 in
def sz_q9 : sy_C := (false, 2, 4, .inl sz_f1)
set_option maxRecDepth 100000 in
def sz_q10 : sy_C := (true, 2, 19, .inr [(sz_r 11), (sz_r 13), (sz_r 15), (sz_r 20), sz_f12, sz_f13, sz_f0, sz_f14, sz_f11, sz_f11, sz_f11, sz_f15, sz_f16, sz_f17, sz_f1, (sz_r 21), sz_f5, sz_f0, sz_f18])
set_option maxRecDepth 100000 in
def sz_q11 : sy_C := (true, 3, 8, .inr [sz_f0, sz_f0, sz_f8, sz_f8, sz_f0, sz_f0, sz_f0, (sz_r 12)])
set_option maxRecDepth 100000 in
def sz_q12 : sy_C := (false, 0, 9, .inl sz_f0)
set_option maxRecDepth 100000 in
def sz_q13 : sy_C := (true, 9, 6, .inr [sz_f14, sz_f14, sz_f0, sz_f14, sz_f8, (sz_r 14)])
set_option maxRecDepth 100000 in
def sz_q14 : sy_C := (false, 0, 8, .inl sz_f0)
set_option maxRecDepth 100000 in
def sz_q15 : sy_C := (true, 1, 10, .inr [sz_f0, sz_f0, sz_f8, sz_f0, sz_f0, sz_f13, (sz_r 16), (sz_r 17), (sz_r 18), (sz_r 19)])
set_option maxRecDepth 100000 in
def sz_q16 : sy_C := (false, 0, 3, .inl sz_f14)
set_option maxRecDepth 100000 in
def sz_q17 : sy_C := (false, 0, 3, .inl sz_f0)
set_option maxRecDepth 100000 in
def sz_q20 : sy_C := (true, 5, 9, .inr [sz_f19, sz_f0, sz_f14, sz_f16, sz_f0, sz_f20, sz_f20, sz_f0, sz_f0])
set_option maxRecDepth 100000 in
def sz_q21 : sy_C := (false, 0, 4, .inl sz_f0)
set_option maxRecDepth 100000 in
def sz_q22 : sy_C := (true, 2, 19, .inr [(sz_r 23), (sz_r 25), (sz_r 27), (sz_r 32), sz_f12, sz_f13, sz_f0, sz_f14, sz_f11, sz_f11, sz_f11, sz_f15, sz_f16, sz_f17, sz_f1, (sz_r 33), sz_f5, sz_f0, sz_f18])
set_option maxRecDepth 100000 in
def sz_q23 : sy_C := (true, 3, 8, .inr [sz_f0, sz_f0, sz_f8, sz_f8, sz_f0, sz_f0, sz_f0, (sz_r 24)])
set_option maxRecDepth 100000 in
def sz_q25 : sy_C := (true, 9, 6, .inr [sz_f14, sz_f14, sz_f0, sz_f14, sz_f8, (sz_r 26)])
set_option maxRecDepth 100000 in
def sz_q27 : sy_C := (true, 1, 10, .inr [sz_f0, sz_f0, sz_f8, sz_f0, sz_f0, sz_f13, (sz_r 28), (sz_r 29), (sz_r 30), (sz_r 31)])
set_option maxRecDepth 100000 in
def sz_q34 : sy_C := (true, 2, 19, .inr [(sz_r 35), (sz_r 37), (sz_r 39), (sz_r 44), sz_f12, sz_f13, sz_f0, sz_f14, sz_f11, sz_f11, sz_f11, sz_f15, sz_f16, sz_f17, sz_f1, (sz_r 45), sz_f5, sz_f0, sz_f18])
set_option maxRecDepth 100000 in
def sz_q35 : sy_C := (true, 3, 8, .inr [sz_f0, sz_f0, sz_f8, sz_f8, sz_f0, sz_f0, sz_f0, (sz_r 36)])
set_option maxRecDepth 100000 in
def sz_q37 : sy_C := (true, 9, 6, .inr [sz_f14, sz_f14, sz_f0, sz_f14, sz_f8, (sz_r 38)])
set_option maxRecDepth 100000 in
def sz_q39 : sy_C := (true, 1, 10, .inr [sz_f0, sz_f0, sz_f8, sz_f0, sz_f0, sz_f13, (sz_r 40), (sz_r 41), (sz_r 42), (sz_r 43)])
set_option maxRecDepth 100000 in
def sz_q46 : sy_C := (true, 2, 19, .inr [(sz_r 47), (sz_r 49), (sz_r 51), (sz_r 56), sz_f12, sz_f13, sz_f0, sz_f14, sz_f11, sz_f11, sz_f11, sz_f15, sz_f16, sz_f17, sz_f1, (sz_r 57), sz_f5, sz_f0, sz_f18])
set_option maxRecDepth 100000 in
def sz_q47 : sy_C := (true, 3, 8, .inr [sz_f0, sz_f0, sz_f8, sz_f8, sz_f0, sz_f0, sz_f0, (sz_r 48)])
set_option maxRecDepth 100000 in
def sz_q49 : sy_C := (true, 9, 6, .inr [sz_f14, sz_f14, sz_f0, sz_f14, sz_f8, (sz_r 50)])
set_option maxRecDepth 100000 in
def sz_q51 : sy_C := (true, 1, 10, .inr [sz_f0, sz_f0, sz_f8, sz_f0, sz_f0, sz_f13, (sz_r 52), (sz_r 53), (sz_r 54), (sz_r 55)])
set_option maxRecDepth 100000 in
def sz_q58 : sy_C := (false, 3, 400, .inl sz_f21)
set_option maxRecDepth 100000 in
def sz_q59 : sy_C := (true, 0, 8, .inr [(sz_r 60), sz_f5, sz_f6, sz_f0, (sz_r 61), (sz_r 63), (sz_r 65), (sz_r 66)])
set_option maxRecDepth 100000 in
def sz_q60 : sy_C := (false, 5, 4, .inr [(sz_r 67), (sz_r 79), (sz_r 91), (sz_r 103)])
set_option maxRecDepth 100000 in
def sz_q61 : sy_C := (true, 7, 3, .inr [(sz_r 62), sz_f7, sz_f8])
set_option maxRecDepth 100000 in
def sz_q63 : sy_C := (true, 7, 3, .inr [(sz_r 64), sz_f9, sz_f10])
set_option maxRecDepth 100000 in
def sz_q67 : sy_C := (true, 2, 19, .inr [(sz_r 68), (sz_r 70), (sz_r 72), (sz_r 77), sz_f12, sz_f13, sz_f0, sz_f14, sz_f11, sz_f11, sz_f11, sz_f15, sz_f16, sz_f17, sz_f1, (sz_r 78), sz_f5, sz_f0, sz_f18])
set_option maxRecDepth 100000 in
def sz_q68 : sy_C := (true, 3, 8, .inr [sz_f0, sz_f0, sz_f8, sz_f8, sz_f0, sz_f0, sz_f0, (sz_r 69)])
set_option maxRecDepth 100000 in
def sz_q70 : sy_C := (true, 9, 6, .inr [sz_f14, sz_f14, sz_f0, sz_f14, sz_f8, (sz_r 71)])
set_option maxRecDepth 100000 in
def sz_q72 : sy_C := (true, 1, 10, .inr [sz_f0, sz_f0, sz_f8, sz_f0, sz_f0, sz_f13, (sz_r 73), (sz_r 74), (sz_r 75), (sz_r 76)])
set_option maxRecDepth 100000 in
def sz_q79 : sy_C := (true, 2, 19, .inr [(sz_r 80), (sz_r 82), (sz_r 84), (sz_r 89), sz_f12, sz_f13, sz_f0, sz_f14, sz_f11, sz_f11, sz_f11, sz_f15, sz_f16, sz_f17, sz_f1, (sz_r 90), sz_f5, sz_f0, sz_f18])
set_option maxRecDepth 100000 in
def sz_q80 : sy_C := (true, 3, 8, .inr [sz_f0, sz_f0, sz_f8, sz_f8, sz_f0, sz_f0, sz_f0, (sz_r 81)])
set_option maxRecDepth 100000 in
def sz_q82 : sy_C := (true, 9, 6, .inr [sz_f14, sz_f14, sz_f0, sz_f14, sz_f8, (sz_r 83)])
set_option maxRecDepth 100000 in
def sz_q84 : sy_C := (true, 1, 10, .inr [sz_f0, sz_f0, sz_f8, sz_f0, sz_f0, sz_f13, (sz_r 85), (sz_r 86), (sz_r 87), (sz_r 88)])
set_option maxRecDepth 100000 in
def sz_q91 : sy_C := (true, 2, 19, .inr [(sz_r 92), (sz_r 94), (sz_r 96), (sz_r 101), sz_f12, sz_f13, sz_f0, sz_f14, sz_f11, sz_f11, sz_f11, sz_f15, sz_f16, sz_f17, sz_f1, (sz_r 102), sz_f5, sz_f0, sz_f18])
set_option maxRecDepth 100000 in
def sz_q92 : sy_C := (true, 3, 8, .inr [sz_f0, sz_f0, sz_f8, sz_f8, sz_f0, sz_f0, sz_f0, (sz_r 93)])
set_option maxRecDepth 100000 in
def sz_q94 : sy_C := (true, 9, 6, .inr [sz_f14, sz_f14, sz_f0, sz_f14, sz_f8, (sz_r 95)])
set_option maxRecDepth 100000 in
def sz_q96 : sy_C := (true, 1, 10, .inr [sz_f0, sz_f0, sz_f8, sz_f0, sz_f0, sz_f13, (sz_r 97), (sz_r 98), (sz_r 99), (sz_r 100)])
set_option maxRecDepth 100000 in
def sz_q103 : sy_C := (true, 2, 19, .inr [(sz_r 104), (sz_r 106), (sz_r 108), (sz_r 113), sz_f12, sz_f13, sz_f0, sz_f14, sz_f11, sz_f11, sz_f11, sz_f15, sz_f16, sz_f17, sz_f1, (sz_r 114), sz_f5, sz_f0, sz_f18])
set_option maxRecDepth 100000 in
def sz_q104 : sy_C := (true, 3, 8, .inr [sz_f0, sz_f0, sz_f8, sz_f8, sz_f0, sz_f0, sz_f0, (sz_r 105)])
set_option maxRecDepth 100000 in
def sz_q106 : sy_C := (true, 9, 6, .inr [sz_f14, sz_f14, sz_f0, sz_f14, sz_f8, (sz_r 107)])
set_option maxRecDepth 100000 in
def sz_q108 : sy_C := (true, 1, 10, .inr [sz_f0, sz_f0, sz_f8, sz_f0, sz_f0, sz_f13, (sz_r 109), (sz_r 110), (sz_r 111), (sz_r 112)])
set_option maxRecDepth 100000 in
def sz_q115 : sy_C := (true, 0, 8, .inr [(sz_r 116), sz_f5, sz_f6, sz_f0, (sz_r 117), (sz_r 119), (sz_r 121), (sz_r 122)])
set_option maxRecDepth 100000 in
def sz_q116 : sy_C := (false, 5, 4, .inr [(sz_r 123), (sz_r 135), (sz_r 147), (sz_r 159)])
set_option maxRecDepth 100000 in
def sz_q117 : sy_C := (true, 7, 3, .inr [(sz_r 118), sz_f7, sz_f8])
set_option maxRecDepth 100000 in
def sz_q119 : sy_C := (true, 7, 3, .inr [(sz_r 120), sz_f9, sz_f10])
set_option maxRecDepth 100000 in
def sz_q123 : sy_C := (true, 2, 19, .inr [(sz_r 124), (sz_r 126), (sz_r 128), (sz_r 133), sz_f12, sz_f13, sz_f0, sz_f14, sz_f11, sz_f11, sz_f11, sz_f15, sz_f16, sz_f17, sz_f1, (sz_r 134), sz_f5, sz_f0, sz_f18])
set_option maxRecDepth 100000 in
def sz_q124 : sy_C := (true, 3, 8, .inr [sz_f0, sz_f0, sz_f8, sz_f8, sz_f0, sz_f0, sz_f0, (sz_r 125)])
set_option maxRecDepth 100000 in
def sz_q126 : sy_C := (true, 9, 6, .inr [sz_f14, sz_f14, sz_f0, sz_f14, sz_f8, (sz_r 127)])
set_option maxRecDepth 100000 in
def sz_q128 : sy_C := (true, 1, 10, .inr [sz_f0, sz_f0, sz_f8, sz_f0, sz_f0, sz_f13, (sz_r 129), (sz_r 130), (sz_r 131), (sz_r 132)])
set_option maxRecDepth 100000 in
def sz_q135 : sy_C := (true, 2, 19, .inr [(sz_r 136), (sz_r 138), (sz_r 140), (sz_r 145), sz_f12, sz_f13, sz_f0, sz_f14, sz_f11, sz_f11, sz_f11, sz_f15, sz_f16, sz_f17, sz_f1, (sz_r 146), sz_f5, sz_f0, sz_f18])
set_option maxRecDepth 100000 in
def sz_q136 : sy_C := (true, 3, 8, .inr [sz_f0, sz_f0, sz_f8, sz_f8, sz_f0, sz_f0, sz_f0, (sz_r 137)])
set_option maxRecDepth 100000 in
def sz_q138 : sy_C := (true, 9, 6, .inr [sz_f14, sz_f14, sz_f0, sz_f14, sz_f8, (sz_r 139)])
set_option maxRecDepth 100000 in
def sz_q140 : sy_C := (true, 1, 10, .inr [sz_f0, sz_f0, sz_f8, sz_f0, sz_f0, sz_f13, (sz_r 141), (sz_r 142), (sz_r 143), (sz_r 144)])
set_option maxRecDepth 100000 in
def sz_q147 : sy_C := (true, 2, 19, .inr [(sz_r 148), (sz_r 150), (sz_r 152), (sz_r 157), sz_f12, sz_f13, sz_f0, sz_f14, sz_f11, sz_f11, sz_f11, sz_f15, sz_f16, sz_f17, sz_f1, (sz_r 158), sz_f5, sz_f0, sz_f18])
set_option maxRecDepth 100000 in
def sz_q148 : sy_C := (true, 3, 8, .inr [sz_f0, sz_f0, sz_f8, sz_f8, sz_f0, sz_f0, sz_f0, (sz_r 149)])
set_option maxRecDepth 100000 in
def sz_q150 : sy_C := (true, 9, 6, .inr [sz_f14, sz_f14, sz_f0, sz_f14, sz_f8, (sz_r 151)])
set_option maxRecDepth 100000 in
def sz_q152 : sy_C := (true, 1, 10, .inr [sz_f0, sz_f0, sz_f8, sz_f0, sz_f0, sz_f13, (sz_r 153), (sz_r 154), (sz_r 155), (sz_r 156)])
set_option maxRecDepth 100000 in
def sz_q159 : sy_C := (true, 2, 19, .inr [(sz_r 160), (sz_r 162), (sz_r 164), (sz_r 169), sz_f12, sz_f13, sz_f0, sz_f14, sz_f11, sz_f11, sz_f11, sz_f15, sz_f16, sz_f17, sz_f1, (sz_r 170), sz_f5, sz_f0, sz_f18])
set_option maxRecDepth 100000 in
def sz_q160 : sy_C := (true, 3, 8, .inr [sz_f0, sz_f0, sz_f8, sz_f8, sz_f0, sz_f0, sz_f0, (sz_r 161)])
set_option maxRecDepth 100000 in
def sz_q162 : sy_C := (true, 9, 6, .inr [sz_f14, sz_f14, sz_f0, sz_f14, sz_f8, (sz_r 163)])
set_option maxRecDepth 100000 in
def sz_q164 : sy_C := (true, 1, 10, .inr [sz_f0, sz_f0, sz_f8, sz_f0, sz_f0, sz_f13, (sz_r 165), (sz_r 166), (sz_r 167), (sz_r 168)])
set_option maxRecDepth 100000 in
def sz_q171 : sy_C := (true, 0, 8, .inr [(sz_r 172), sz_f5, sz_f6, sz_f0, (sz_r 173), (sz_r 175), (sz_r 177), (sz_r 178)])
set_option maxRecDepth 100000 in
def sz_q172 : sy_C := (false, 5, 4, .inr [(sz_r 179), (sz_r 191), (sz_r 203), (sz_r 215)])
set_option maxRecDepth 100000 in
def sz_q173 : sy_C := (true, 7, 3, .inr [(sz_r 174), sz_f7, sz_f8])
set_option maxRecDepth 100000 in
def sz_q175 : sy_C := (true, 7, 3, .inr [(sz_r 176), sz_f9, sz_f10])
set_option maxRecDepth 100000 in
def sz_q179 : sy_C := (true, 2, 19, .inr [(sz_r 180), (sz_r 182), (sz_r 184), (sz_r 189), sz_f12, sz_f13, sz_f0, sz_f14, sz_f11, sz_f11, sz_f11, sz_f15, sz_f16, sz_f17, sz_f1, (sz_r 190), sz_f5, sz_f0, sz_f18])
set_option maxRecDepth 100000 in
def sz_q180 : sy_C := (true, 3, 8, .inr [sz_f0, sz_f0, sz_f8, sz_f8, sz_f0, sz_f0, sz_f0, (sz_r 181)])
set_option maxRecDepth 100000 in
def sz_q182 : sy_C := (true, 9, 6, .inr [sz_f14, sz_f14, sz_f0, sz_f14, sz_f8, (sz_r 183)])
set_option maxRecDepth 100000 in
def sz_q184 : sy_C := (true, 1, 10, .inr [sz_f0, sz_f0, sz_f8, sz_f0, sz_f0, sz_f13, (sz_r 185), (sz_r 186), (sz_r 187), (sz_r 188)])
set_option maxRecDepth 100000 in
def sz_q191 : sy_C := (true, 2, 19, .inr [(sz_r 192), (sz_r 194), (sz_r 196), (sz_r 201), sz_f12, sz_f13, sz_f0, sz_f14, sz_f11, sz_f11, sz_f11, sz_f15, sz_f16, sz_f17, sz_f1, (sz_r 202), sz_f5, sz_f0, sz_f18])
set_option maxRecDepth 100000 in
def sz_q192 : sy_C := (true, 3, 8, .inr [sz_f0, sz_f0, sz_f8, sz_f8, sz_f0, sz_f0, sz_f0, (sz_r 193)])
set_option maxRecDepth 100000 in
def sz_q194 : sy_C := (true, 9, 6, .inr [sz_f14, sz_f14, sz_f0, sz_f14, sz_f8, (sz_r 195)])
set_option maxRecDepth 100000 in
def sz_q196 : sy_C := (true, 1, 10, .inr [sz_f0, sz_f0, sz_f8, sz_f0, sz_f0, sz_f13, (sz_r 197), (sz_r 198), (sz_r 199), (sz_r 200)])
set_option maxRecDepth 100000 in
def sz_q203 : sy_C := (true, 2, 19, .inr [(sz_r 204), (sz_r 206), (sz_r 208), (sz_r 213), sz_f12, sz_f13, sz_f0, sz_f14, sz_f11, sz_f11, sz_f11, sz_f15, sz_f16, sz_f17, sz_f1, (sz_r 214), sz_f5, sz_f0, sz_f18])
set_option maxRecDepth 100000 in
def sz_q204 : sy_C := (true, 3, 8, .inr [sz_f0, sz_f0, sz_f8, sz_f8, sz_f0, sz_f0, sz_f0, (sz_r 205)])
set_option maxRecDepth 100000 in
def sz_q206 : sy_C := (true, 9, 6, .inr [sz_f14, sz_f14, sz_f0, sz_f14, sz_f8, (sz_r 207)])
set_option maxRecDepth 100000 in
def sz_q208 : sy_C := (true, 1, 10, .inr [sz_f0, sz_f0, sz_f8, sz_f0, sz_f0, sz_f13, (sz_r 209), (sz_r 210), (sz_r 211), (sz_r 212)])
set_option maxRecDepth 100000 in
def sz_q215 : sy_C := (true, 2, 19, .inr [(sz_r 216), (sz_r 218), (sz_r 220), (sz_r 225), sz_f12, sz_f13, sz_f0, sz_f14, sz_f11, sz_f11, sz_f11, sz_f15, sz_f16, sz_f17, sz_f1, (sz_r 226), sz_f5, sz_f0, sz_f18])
set_option maxRecDepth 100000 in
def sz_q216 : sy_C := (true, 3, 8, .inr [sz_f0, sz_f0, sz_f8, sz_f8, sz_f0, sz_f0, sz_f0, (sz_r 217)])
set_option maxRecDepth 100000 in
def sz_q218 : sy_C := (true, 9, 6, .inr [sz_f14, sz_f14, sz_f0, sz_f14, sz_f8, (sz_r 219)])
set_option maxRecDepth 100000 in
def sz_q220 : sy_C := (true, 1, 10, .inr [sz_f0, sz_f0, sz_f8, sz_f0, sz_f0, sz_f13, (sz_r 221), (sz_r 222), (sz_r 223), (sz_r 224)])
set_option maxRecDepth 100000 in
def sz_q227 : sy_C := (true, 8, 9, .inr [(sz_r 228), (sz_r 229), (sz_r 230), (sz_r 231), (sz_r 232), (sz_r 233), (sz_r 234), (sz_r 235), (sz_r 236)])
set_option maxRecDepth 100000 in
def sz_q228 : sy_C := (false, 4, 4, .inl sz_f22)
set_option maxRecDepth 100000 in
def sz_q229 : sy_C := (false, 4, 4, .inl sz_f23)
set_option maxRecDepth 100000 in
def sz_q230 : sy_C := (false, 4, 4, .inl sz_f24)
set_option maxRecDepth 100000 in
def sz_q231 : sy_C := (false, 4, 4, .inl sz_f25)
set_option maxRecDepth 100000 in
def sz_q232 : sy_C := (false, 4, 4, .inl sz_f26)
set_option maxRecDepth 100000 in
def sz_q233 : sy_C := (false, 4, 4, .inl sz_f27)
set_option maxRecDepth 100000 in
def sz_q234 : sy_C := (false, 4, 4, .inl sz_f28)
set_option maxRecDepth 100000 in
def sz_q236 : sy_C := (false, 6, 4, .inr [(sz_r 237), (sz_r 238), (sz_r 239), (sz_r 240)])
set_option maxRecDepth 100000 in
def sz_q237 : sy_C := (false, 4, 9, .inl sz_f29)
set_option maxRecDepth 100000 in
def sz_q241 : sy_C := (true, 6, 4, .inr [sz_f30, sz_f4, (sz_r 242), (sz_r 243)])
set_option maxRecDepth 100000 in
def sz_q242 : sy_C := (false, 0, 5, .inr [sz_f0, sz_f0, sz_f0, sz_f31, sz_f0])
set_option maxRecDepth 100000 in
def sz_q243 : sy_C := (false, 1, 1000, .inl sz_f11)
set_option maxRecDepth 100000 in
def sz_q244 : sy_C := (true, 11, 30, .inr [sz_f0, (sz_r 245), (sz_r 246), (sz_r 247), (sz_r 248), sz_f1, (sz_r 249), sz_f2, sz_f2, sz_f2, sz_f2, sz_f4, (sz_r 250), sz_f0, (sz_r 251), (sz_r 252), sz_f30, sz_f32, (sz_r 253), (sz_r 254), (sz_r 255), (sz_r 256), (sz_r 257), (sz_r 258), (sz_r 259), (sz_r 260), (sz_r 261), (sz_r 262), (sz_r 263), (sz_r 264)])
set_option maxRecDepth 100000 in
def sz_q245 : sy_C := (false, 1, 585, .inr ([sz_f33] ++ ([sz_f34] ++ ([sz_f11] ++ ([sz_f35] ++ ([sz_f36] ++ ([sz_f37] ++ ([sz_f11] ++ ([sz_f35, sz_f35] ++ ([sz_f11] ++ ([sz_f38, sz_f38] ++ ([sz_f39] ++ ([sz_f40] ++ ([sz_f11, sz_f11] ++ ([sz_f38, sz_f38] ++ ([sz_f37] ++ ([sz_f40] ++ ([sz_f11, sz_f11, sz_f11] ++ ([sz_f41] ++ ([sz_f42] ++ ([sz_f35] ++ ([sz_f11, sz_f11] ++ ([sz_f35] ++ ([sz_f11, sz_f11, sz_f11] ++ ([sz_f38] ++ ([sz_f11, sz_f11, sz_f11] ++ ([sz_f38] ++ ([sz_f11, sz_f11, sz_f11] ++ ([sz_f38] ++ (List.replicate 11 sz_f11 ++ ([sz_f43] ++ (List.replicate 13 sz_f11 ++ ([sz_f44] ++ (List.replicate 4 sz_f11 ++ ([sz_f38] ++ ([sz_f45] ++ ([sz_f11] ++ ([sz_f46, sz_f46] ++ ([sz_f43, sz_f43] ++ ([sz_f47] ++ ([sz_f11, sz_f11, sz_f11] ++ ([sz_f37] ++ ([sz_f11] ++ ([sz_f35, sz_f35] ++ ([sz_f11] ++ ([sz_f38, sz_f38] ++ ([sz_f39] ++ ([sz_f40] ++ ([sz_f11, sz_f11] ++ ([sz_f38, sz_f38] ++ ([sz_f37] ++ ([sz_f40] ++ ([sz_f11, sz_f11, sz_f11] ++ ([sz_f41] ++ ([sz_f42] ++ ([sz_f35] ++ ([sz_f11, sz_f11] ++ ([sz_f35] ++ ([sz_f11, sz_f11, sz_f11] ++ ([sz_f38] ++ ([sz_f11, sz_f11, sz_f11] ++ ([sz_f38] ++ ([sz_f11, sz_f11, sz_f11] ++ ([sz_f38] ++ (List.replicate 11 sz_f11 ++ ([sz_f43] ++ (List.replicate 13 sz_f11 ++ ([sz_f37] ++ (List.replicate 4 sz_f11 ++ ([sz_f38] ++ ([sz_f45] ++ ([sz_f11] ++ ([sz_f46, sz_f46] ++ ([sz_f43, sz_f43] ++ ([sz_f47] ++ ([sz_f11, sz_f11, sz_f11] ++ ([sz_f37] ++ ([sz_f11] ++ ([sz_f35, sz_f35] ++ ([sz_f11] ++ ([sz_f38, sz_f38] ++ ([sz_f45] ++ ([sz_f40] ++ ([sz_f11, sz_f11] ++ ([sz_f38, sz_f38] ++ ([sz_f37] ++ ([sz_f40] ++ ([sz_f11, sz_f11, sz_f11] ++ ([sz_f41] ++ ([sz_f42] ++ ([sz_f35] ++ ([sz_f11, sz_f11] ++ ([sz_f35] ++ ([sz_f11, sz_f11, sz_f11] ++ ([sz_f38] ++ ([sz_f11, sz_f11, sz_f11] ++ ([sz_f38] ++ ([sz_f11, sz_f11, sz_f11] ++ ([sz_f38] ++ (List.replicate 11 sz_f11 ++ ([sz_f43] ++ (List.replicate 13 sz_f11 ++ ([sz_f40] ++ (List.replicate 4 sz_f11 ++ ([sz_f38] ++ ([sz_f45] ++ ([sz_f11] ++ ([sz_f46, sz_f46] ++ ([sz_f43, sz_f43] ++ ([sz_f47] ++ ([sz_f11, sz_f11, sz_f11] ++ ([sz_f37] ++ ([sz_f11] ++ ([sz_f35, sz_f35] ++ ([sz_f11] ++ ([sz_f38, sz_f38] ++ ([sz_f48] ++ ([sz_f40] ++ ([sz_f11, sz_f11] ++ ([sz_f38, sz_f38] ++ ([sz_f37] ++ ([sz_f40] ++ ([sz_f11, sz_f11, sz_f11] ++ ([sz_f41] ++ ([sz_f42] ++ ([sz_f35] ++ ([sz_f11, sz_f11] ++ ([sz_f35] ++ ([sz_f11, sz_f11, sz_f11] ++ ([sz_f38] ++ ([sz_f11, sz_f11, sz_f11] ++ ([sz_f38] ++ ([sz_f11, sz_f11, sz_f11] ++ ([sz_f38] ++ (List.replicate 11 sz_f11 ++ ([sz_f43] ++ (List.replicate 13 sz_f11 ++ ([sz_f33] ++ (List.replicate 4 sz_f11 ++ ([sz_f38] ++ ([sz_f45] ++ ([sz_f11] ++ ([sz_f46, sz_f46] ++ ([sz_f43, sz_f43] ++ ([sz_f47] ++ (List.replicate 4 sz_f11 ++ ([sz_f33] ++ ([sz_f40] ++ ([sz_f38] ++ ([sz_f11] ++ ([sz_f33] ++ ([sz_f40] ++ ([sz_f38] ++ ([sz_f11] ++ ([sz_f33] ++ ([sz_f40] ++ ([sz_f38] ++ ([sz_f11] ++ ([sz_f33] ++ ([sz_f40] ++ ([sz_f38] ++ ([sz_f11] ++ ([sz_f33] ++ ([sz_f40] ++ ([sz_f38] ++ ([sz_f11] ++ ([sz_f33] ++ ([sz_f40] ++ ([sz_f38] ++ ([sz_f11] ++ ([sz_f33] ++ ([sz_f40] ++ ([sz_f38] ++ ([sz_f11] ++ ([sz_f33] ++ ([sz_f40] ++ ([sz_f38] ++ (List.replicate 240 sz_f11))))))))))))))))))))))))))))))))))))))))))))))))))))))))))))))))))))))))))))))))))))))))))))))))))))))))))))))))))))))))))))))))))))))))))))))))))))))))))))))))))))))))))))))))))
set_option maxRecDepth 100000 in
def sz_q250 : sy_C := (false, 0, 5, .inl sz_f0)
set_option maxRecDepth 100000 in
def sz_q252 : sy_C := (false, 1, 61908, .inl sz_f11)
set_option maxRecDepth 100000 in
def sz_q253 : sy_C := (false, 1, 2772, .inl sz_f11)
set_option maxRecDepth 100000 in
def sz_q262 : sy_C := (false, 4, 4, .inl sz_f49)
set_option maxRecDepth 100000 in
def sz_q263 : sy_C := (false, 4, 36, .inl sz_f29)
set_option maxRecDepth 100000 in
def sz_q265 : sy_C := (false, 1, 1, .inl sz_f11)
def sz_TL : List sy_C := [sz_q0, sz_q1, sz_q2, sz_q3, sz_q4, sz_q5, sz_q6, sz_q7, sz_q8, sz_q9, sz_q10, sz_q11, sz_q12, sz_q13, sz_q14, sz_q15, sz_q16, sz_q17, sz_q17, sz_q17, sz_q20, sz_q21, sz_q22, sz_q23, sz_q12, sz_q25, sz_q14, sz_q27, sz_q16, sz_q17, sz_q17, sz_q17, sz_q20, sz_q21, sz_q34, sz_q35, sz_q12, sz_q37, sz_q14, sz_q39, sz_q16, sz_q17, sz_q17, sz_q17, sz_q20, sz_q21, sz_q46, sz_q47, sz_q12, sz_q49, sz_q14, sz_q51, sz_q16, sz_q17, sz_q17, sz_q17, sz_q20, sz_q21, sz_q58, sz_q59, sz_q60, sz_q61, sz_q5, sz_q63, sz_q7, sz_q8, sz_q9, sz_q67, sz_q68, sz_q12, sz_q70, sz_q14, sz_q72, sz_q16, sz_q17, sz_q17, sz_q17, sz_q20, sz_q21, sz_q79, sz_q80, sz_q12, sz_q82, sz_q14, sz_q84, sz_q16, sz_q17, sz_q17, sz_q17, sz_q20, sz_q21, sz_q91, sz_q92, sz_q12, sz_q94, sz_q14, sz_q96, sz_q16, sz_q17, sz_q17, sz_q17, sz_q20, sz_q21, sz_q103, sz_q104, sz_q12, sz_q106, sz_q14, sz_q108, sz_q16, sz_q17, sz_q17, sz_q17, sz_q20, sz_q21, sz_q115, sz_q116, sz_q117, sz_q5, sz_q119, sz_q7, sz_q8, sz_q9, sz_q123, sz_q124, sz_q12, sz_q126, sz_q14, sz_q128, sz_q16, sz_q17, sz_q17, sz_q17, sz_q20, sz_q21, sz_q135, sz_q136, sz_q12, sz_q138, sz_q14, sz_q140, sz_q16, sz_q17, sz_q17, sz_q17, sz_q20, sz_q21, sz_q147, sz_q148, sz_q12, sz_q150, sz_q14, sz_q152, sz_q16, sz_q17, sz_q17, sz_q17, sz_q20, sz_q21, sz_q159, sz_q160, sz_q12, sz_q162, sz_q14, sz_q164, sz_q16, sz_q17, sz_q17, sz_q17, sz_q20, sz_q21, sz_q171, sz_q172, sz_q173, sz_q5, sz_q175, sz_q7, sz_q8, sz_q9, sz_q179, sz_q180, sz_q12, sz_q182, sz_q14, sz_q184, sz_q16, sz_q17, sz_q17, sz_q17, sz_q20, sz_q21, sz_q191, sz_q192, sz_q12, sz_q194, sz_q14, sz_q196, sz_q16, sz_q17, sz_q17, sz_q17, sz_q20, sz_q21, sz_q203, sz_q204, sz_q12, sz_q206, sz_q14, sz_q208, sz_q16, sz_q17, sz_q17, sz_q17, sz_q20, sz_q21, sz_q215, sz_q216, sz_q12, sz_q218, sz_q14, sz_q220, sz_q16, sz_q17, sz_q17, sz_q17, sz_q20, sz_q21, sz_q227, sz_q228, sz_q229, sz_q230, sz_q231, sz_q232, sz_q233, sz_q234, sz_q234, sz_q236, sz_q237, sz_q237, sz_q237, sz_q237, sz_q241, sz_q242, sz_q243, sz_q244, sz_q245, sz_q245, sz_q245, sz_q245, sz_q58, sz_q250, sz_q8, sz_q252, sz_q253, sz_q228, sz_q229, sz_q230, sz_q231, sz_q232, sz_q233, sz_q234, sz_q234, sz_q262, sz_q263, sz_q9, sz_q265]
noncomputable def sz_T (q : Nat) : Option sy_C := ri_nth sz_TL q
noncomputable def sz_E : sy_en := (ri_Ms0, ri_ty0, ri_tyL0, ri_exl0)
