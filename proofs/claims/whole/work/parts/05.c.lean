set_option maxRecDepth 20000 in
theorem am_c0 : am_at 1105 = some (Cond.code (am_y am_m0) (am_cc am_m0) (am_ml am_m0) (am_rt am_m0)) := rfl
set_option maxRecDepth 20000 in
theorem am_c1 : am_at 2138 = some (Cond.code (am_y am_m1) (am_cc am_m1) (am_ml am_m1) (am_rt am_m1)) := rfl
set_option maxRecDepth 20000 in
theorem am_c2 : am_at 3090 = some (Cond.code (am_y am_m2) (am_cc am_m2) (am_ml am_m2) (am_rt am_m2)) := rfl
set_option maxRecDepth 20000 in
theorem am_c3 : am_at 3114 = some (Cond.code (am_y am_m3) (am_cc am_m3) (am_ml am_m3) (am_rt am_m3)) := rfl
set_option maxRecDepth 20000 in
theorem am_c4 : am_at 4008 = some (Cond.code (am_y am_m4) (am_cc am_m4) (am_ml am_m4) (am_rt am_m4)) := rfl
set_option maxRecDepth 20000 in
theorem am_c5 : am_at 4013 = some (Cond.code (am_y am_m5) (am_cc am_m5) (am_ml am_m5) (am_rt am_m5)) := rfl
set_option maxRecDepth 20000 in
theorem am_c6 : am_at 4016 = some (Cond.code (am_y am_m6) (am_cc am_m6) (am_ml am_m6) (am_rt am_m6)) := rfl
set_option maxRecDepth 20000 in
theorem am_c7 : am_at 4040 = some (Cond.code (am_y am_m7) (am_cc am_m7) (am_ml am_m7) (am_rt am_m7)) := rfl
set_option maxRecDepth 20000 in
theorem am_c8 : am_at 4043 = some (Cond.code (am_y am_m8) (am_cc am_m8) (am_ml am_m8) (am_rt am_m8)) := rfl
set_option maxRecDepth 20000 in
theorem am_c9 : am_at 4051 = some (Cond.code (am_y am_m9) (am_cc am_m9) (am_ml am_m9) (am_rt am_m9)) := rfl
set_option maxRecDepth 20000 in
theorem am_c10 : am_at 4054 = some (Cond.code (am_y am_m10) (am_cc am_m10) (am_ml am_m10) (am_rt am_m10)) := rfl
set_option maxRecDepth 20000 in
theorem am_c11 : am_at 4057 = some (Cond.code (am_y am_m11) (am_cc am_m11) (am_ml am_m11) (am_rt am_m11)) := rfl
set_option maxRecDepth 20000 in
theorem am_c12 : am_at 1217 = some (Cond.code (am_y am_m12) (am_cc am_m12) (am_ml am_m12) (am_rt am_m12)) := rfl
set_option maxRecDepth 20000 in
theorem am_c13 : am_at 2134 = some (Cond.code (am_y am_m13) (am_cc am_m13) (am_ml am_m13) (am_rt am_m13)) := rfl
set_option maxRecDepth 20000 in
theorem am_c14 : am_at 2229 = some (Cond.code (am_y am_m14) (am_cc am_m14) (am_ml am_m14) (am_rt am_m14)) := rfl
set_option maxRecDepth 20000 in
theorem am_c15 : am_at 3015 = some (Cond.code (am_y am_m15) (am_cc am_m15) (am_ml am_m15) (am_rt am_m15)) := rfl
set_option maxRecDepth 20000 in
theorem am_c16 : am_at 3019 = some (Cond.code (am_y am_m16) (am_cc am_m16) (am_ml am_m16) (am_rt am_m16)) := rfl
set_option maxRecDepth 20000 in
theorem am_c17 : am_at 3027 = some (Cond.code (am_y am_m17) (am_cc am_m17) (am_ml am_m17) (am_rt am_m17)) := rfl
set_option maxRecDepth 20000 in
theorem am_c18 : am_at 3031 = some (Cond.code (am_y am_m18) (am_cc am_m18) (am_ml am_m18) (am_rt am_m18)) := rfl
set_option maxRecDepth 20000 in
theorem am_c19 : am_at 3053 = some (Cond.code (am_y am_m19) (am_cc am_m19) (am_ml am_m19) (am_rt am_m19)) := rfl
set_option maxRecDepth 20000 in
theorem am_c20 : am_at 3057 = some (Cond.code (am_y am_m20) (am_cc am_m20) (am_ml am_m20) (am_rt am_m20)) := rfl
set_option maxRecDepth 20000 in
theorem am_c21 : am_at 3076 = some (Cond.code (am_y am_m21) (am_cc am_m21) (am_ml am_m21) (am_rt am_m21)) := rfl
set_option maxRecDepth 20000 in
theorem am_c22 : am_at 3086 = some (Cond.code (am_y am_m22) (am_cc am_m22) (am_ml am_m22) (am_rt am_m22)) := rfl
set_option maxRecDepth 20000 in
theorem am_c23 : am_at 3179 = some (Cond.code (am_y am_m23) (am_cc am_m23) (am_ml am_m23) (am_rt am_m23)) := rfl
set_option maxRecDepth 20000 in
theorem am_c24 : am_at 3189 = some (Cond.code (am_y am_m24) (am_cc am_m24) (am_ml am_m24) (am_rt am_m24)) := rfl
set_option maxRecDepth 20000 in
theorem am_c25 : am_at 3194 = some (Cond.code (am_y am_m25) (am_cc am_m25) (am_ml am_m25) (am_rt am_m25)) := rfl
set_option maxRecDepth 20000 in
theorem am_c26 : am_at 3199 = some (Cond.code (am_y am_m26) (am_cc am_m26) (am_ml am_m26) (am_rt am_m26)) := rfl
set_option maxRecDepth 20000 in
theorem am_c27 : am_at 3227 = some (Cond.code (am_y am_m27) (am_cc am_m27) (am_ml am_m27) (am_rt am_m27)) := rfl
set_option maxRecDepth 20000 in
theorem am_c28 : am_at 4000 = some (Cond.code (am_y am_m28) (am_cc am_m28) (am_ml am_m28) (am_rt am_m28)) := rfl
set_option maxRecDepth 20000 in
theorem am_c29 : am_at 4004 = some (Cond.code (am_y am_m29) (am_cc am_m29) (am_ml am_m29) (am_rt am_m29)) := rfl
set_option maxRecDepth 20000 in
theorem am_c30 : am_at 4027 = some (Cond.code (am_y am_m30) (am_cc am_m30) (am_ml am_m30) (am_rt am_m30)) := rfl
set_option maxRecDepth 20000 in
theorem am_c31 : am_at 4031 = some (Cond.code (am_y am_m31) (am_cc am_m31) (am_ml am_m31) (am_rt am_m31)) := rfl
set_option maxRecDepth 20000 in
theorem am_c32 : am_at 4035 = some (Cond.code (am_y am_m32) (am_cc am_m32) (am_ml am_m32) (am_rt am_m32)) := rfl
set_option maxRecDepth 20000 in
theorem am_c33 : am_at 4048 = some (Cond.code (am_y am_m33) (am_cc am_m33) (am_ml am_m33) (am_rt am_m33)) := rfl
set_option maxRecDepth 20000 in
theorem am_c34 : am_at 4091 = some (Cond.code (am_y am_m34) (am_cc am_m34) (am_ml am_m34) (am_rt am_m34)) := rfl
set_option maxRecDepth 20000 in
theorem am_c35 : am_at 4101 = some (Cond.code (am_y am_m35) (am_cc am_m35) (am_ml am_m35) (am_rt am_m35)) := rfl
set_option maxRecDepth 20000 in
theorem am_c36 : am_at 4110 = some (Cond.code (am_y am_m36) (am_cc am_m36) (am_ml am_m36) (am_rt am_m36)) := rfl
set_option maxRecDepth 20000 in
theorem am_c37 : am_at 4114 = some (Cond.code (am_y am_m37) (am_cc am_m37) (am_ml am_m37) (am_rt am_m37)) := rfl
set_option maxRecDepth 20000 in
theorem am_c38 : am_at 4118 = some (Cond.code (am_y am_m38) (am_cc am_m38) (am_ml am_m38) (am_rt am_m38)) := rfl
set_option maxRecDepth 20000 in
theorem am_c39 : am_at 4163 = some (Cond.code (am_y am_m39) (am_cc am_m39) (am_ml am_m39) (am_rt am_m39)) := rfl
set_option maxRecDepth 20000 in
theorem am_c40 : am_at 4170 = some (Cond.code (am_y am_m40) (am_cc am_m40) (am_ml am_m40) (am_rt am_m40)) := rfl
set_option maxRecDepth 20000 in
theorem am_c41 : am_at 4175 = some (Cond.code (am_y am_m41) (am_cc am_m41) (am_ml am_m41) (am_rt am_m41)) := rfl
set_option maxRecDepth 20000 in
theorem am_c42 : am_at 4189 = some (Cond.code (am_y am_m42) (am_cc am_m42) (am_ml am_m42) (am_rt am_m42)) := rfl
set_option maxRecDepth 20000 in
theorem am_c43 : am_at 4193 = some (Cond.code (am_y am_m43) (am_cc am_m43) (am_ml am_m43) (am_rt am_m43)) := rfl
set_option maxRecDepth 20000 in
theorem am_c44 : am_at 5075 = some (Cond.code (am_y am_m44) (am_cc am_m44) (am_ml am_m44) (am_rt am_m44)) := rfl
set_option maxRecDepth 20000 in
theorem am_c45 : am_at 5140 = some (Cond.code (am_y am_m45) (am_cc am_m45) (am_ml am_m45) (am_rt am_m45)) := rfl
set_option maxRecDepth 20000 in
theorem am_c46 : am_at 1073 = some (Cond.code (am_y am_m46) (am_cc am_m46) (am_ml am_m46) (am_rt am_m46)) := rfl
set_option maxRecDepth 20000 in
theorem am_c47 : am_at 2130 = some (Cond.code (am_y am_m47) (am_cc am_m47) (am_ml am_m47) (am_rt am_m47)) := rfl
set_option maxRecDepth 20000 in
theorem am_c48 : am_at 2221 = some (Cond.code (am_y am_m48) (am_cc am_m48) (am_ml am_m48) (am_rt am_m48)) := rfl
set_option maxRecDepth 20000 in
theorem am_c49 : am_at 2225 = some (Cond.code (am_y am_m49) (am_cc am_m49) (am_ml am_m49) (am_rt am_m49)) := rfl
set_option maxRecDepth 20000 in
theorem am_c50 : am_at 3062 = some (Cond.code (am_y am_m50) (am_cc am_m50) (am_ml am_m50) (am_rt am_m50)) := rfl
set_option maxRecDepth 20000 in
theorem am_c51 : am_at 3071 = some (Cond.code (am_y am_m51) (am_cc am_m51) (am_ml am_m51) (am_rt am_m51)) := rfl
set_option maxRecDepth 20000 in
theorem am_c52 : am_at 3081 = some (Cond.code (am_y am_m52) (am_cc am_m52) (am_ml am_m52) (am_rt am_m52)) := rfl
set_option maxRecDepth 20000 in
theorem am_c53 : am_at 3184 = some (Cond.code (am_y am_m53) (am_cc am_m53) (am_ml am_m53) (am_rt am_m53)) := rfl
set_option maxRecDepth 20000 in
theorem am_c54 : am_at 1180 = some (Cond.code (am_y am_m54) (am_cc am_m54) (am_ml am_m54) (am_rt am_m54)) := rfl
set_option maxRecDepth 20000 in
theorem am_c55 : am_at 3208 = some (Cond.code (am_y am_m55) (am_cc am_m55) (am_ml am_m55) (am_rt am_m55)) := rfl
set_option maxRecDepth 20000 in
theorem am_c56 : am_at 4078 = some (Cond.code (am_y am_m56) (am_cc am_m56) (am_ml am_m56) (am_rt am_m56)) := rfl
set_option maxRecDepth 20000 in
theorem am_c57 : am_at 5061 = some (Cond.code (am_y am_m57) (am_cc am_m57) (am_ml am_m57) (am_rt am_m57)) := rfl
set_option maxRecDepth 20000 in
theorem am_c58 : am_at 5079 = some (Cond.code (am_y am_m58) (am_cc am_m58) (am_ml am_m58) (am_rt am_m58)) := rfl
set_option maxRecDepth 20000 in
theorem am_c59 : am_at 1167 = some (Cond.code (am_y am_m59) (am_cc am_m59) (am_ml am_m59) (am_rt am_m59)) := rfl
set_option maxRecDepth 20000 in
theorem am_c60 : am_at 4145 = some (Cond.code (am_y am_m60) (am_cc am_m60) (am_ml am_m60) (am_rt am_m60)) := rfl
set_option maxRecDepth 20000 in
theorem am_c61 : am_at 4154 = some (Cond.code (am_y am_m61) (am_cc am_m61) (am_ml am_m61) (am_rt am_m61)) := rfl
set_option maxRecDepth 20000 in
theorem am_c62 : am_at 4158 = some (Cond.code (am_y am_m62) (am_cc am_m62) (am_ml am_m62) (am_rt am_m62)) := rfl
set_option maxRecDepth 20000 in
theorem am_c63 : am_at 5028 = some (Cond.code (am_y am_m63) (am_cc am_m63) (am_ml am_m63) (am_rt am_m63)) := rfl
set_option maxRecDepth 20000 in
theorem am_c64 : am_at 5043 = some (Cond.code (am_y am_m64) (am_cc am_m64) (am_ml am_m64) (am_rt am_m64)) := rfl
set_option maxRecDepth 20000 in
theorem am_c65 : am_at 1099 = some (Cond.code (am_y am_m65) (am_cc am_m65) (am_ml am_m65) (am_rt am_m65)) := rfl
set_option maxRecDepth 20000 in
theorem am_c66 : am_at 5173 = some (Cond.code (am_y am_m66) (am_cc am_m66) (am_ml am_m66) (am_rt am_m66)) := rfl
set_option maxRecDepth 20000 in
theorem am_c67 : am_at 5179 = some (Cond.code (am_y am_m67) (am_cc am_m67) (am_ml am_m67) (am_rt am_m67)) := rfl
set_option maxRecDepth 20000 in
theorem am_c68 : am_at 5195 = some (Cond.code (am_y am_m68) (am_cc am_m68) (am_ml am_m68) (am_rt am_m68)) := rfl
set_option maxRecDepth 20000 in
theorem am_c69 : am_at 5203 = some (Cond.code (am_y am_m69) (am_cc am_m69) (am_ml am_m69) (am_rt am_m69)) := rfl
set_option maxRecDepth 20000 in
theorem am_c70 : am_at 1139 = some (Cond.code (am_y am_m70) (am_cc am_m70) (am_ml am_m70) (am_rt am_m70)) := rfl
set_option maxRecDepth 20000 in
theorem am_c71 : am_at 4197 = some (Cond.code (am_y am_m71) (am_cc am_m71) (am_ml am_m71) (am_rt am_m71)) := rfl
set_option maxRecDepth 20000 in
theorem am_c72 : am_at 4202 = some (Cond.code (am_y am_m72) (am_cc am_m72) (am_ml am_m72) (am_rt am_m72)) := rfl
set_option maxRecDepth 20000 in
theorem am_c73 : am_at 4207 = some (Cond.code (am_y am_m73) (am_cc am_m73) (am_ml am_m73) (am_rt am_m73)) := rfl
set_option maxRecDepth 20000 in
theorem am_c74 : am_at 4213 = some (Cond.code (am_y am_m74) (am_cc am_m74) (am_ml am_m74) (am_rt am_m74)) := rfl
set_option maxRecDepth 20000 in
theorem am_c75 : am_at 4221 = some (Cond.code (am_y am_m75) (am_cc am_m75) (am_ml am_m75) (am_rt am_m75)) := rfl
set_option maxRecDepth 20000 in
theorem am_c76 : am_at 4225 = some (Cond.code (am_y am_m76) (am_cc am_m76) (am_ml am_m76) (am_rt am_m76)) := rfl
set_option maxRecDepth 20000 in
theorem am_c77 : am_at 4233 = some (Cond.code (am_y am_m77) (am_cc am_m77) (am_ml am_m77) (am_rt am_m77)) := rfl
set_option maxRecDepth 20000 in
theorem am_c78 : am_at 5001 = some (Cond.code (am_y am_m78) (am_cc am_m78) (am_ml am_m78) (am_rt am_m78)) := rfl
set_option maxRecDepth 20000 in
theorem am_c79 : am_at 5005 = some (Cond.code (am_y am_m79) (am_cc am_m79) (am_ml am_m79) (am_rt am_m79)) := rfl
set_option maxRecDepth 20000 in
theorem am_c80 : am_at 5013 = some (Cond.code (am_y am_m80) (am_cc am_m80) (am_ml am_m80) (am_rt am_m80)) := rfl
set_option maxRecDepth 20000 in
theorem am_c81 : am_at 5017 = some (Cond.code (am_y am_m81) (am_cc am_m81) (am_ml am_m81) (am_rt am_m81)) := rfl
set_option maxRecDepth 20000 in
theorem am_c82 : am_at 1196 = some (Cond.code (am_y am_m82) (am_cc am_m82) (am_ml am_m82) (am_rt am_m82)) := rfl
set_option maxRecDepth 20000 in
theorem am_c83 : am_at 3203 = some (Cond.code (am_y am_m83) (am_cc am_m83) (am_ml am_m83) (am_rt am_m83)) := rfl
set_option maxRecDepth 20000 in
theorem am_c84 : am_at 3231 = some (Cond.code (am_y am_m84) (am_cc am_m84) (am_ml am_m84) (am_rt am_m84)) := rfl
set_option maxRecDepth 20000 in
theorem am_c85 : am_at 3236 = some (Cond.code (am_y am_m85) (am_cc am_m85) (am_ml am_m85) (am_rt am_m85)) := rfl
set_option maxRecDepth 20000 in
theorem am_c86 : am_at 4074 = some (Cond.code (am_y am_m86) (am_cc am_m86) (am_ml am_m86) (am_rt am_m86)) := rfl
set_option maxRecDepth 20000 in
theorem am_c87 : am_at 4082 = some (Cond.code (am_y am_m87) (am_cc am_m87) (am_ml am_m87) (am_rt am_m87)) := rfl
set_option maxRecDepth 20000 in
theorem am_c88 : am_at 4136 = some (Cond.code (am_y am_m88) (am_cc am_m88) (am_ml am_m88) (am_rt am_m88)) := rfl
set_option maxRecDepth 20000 in
theorem am_c89 : am_at 5096 = some (Cond.code (am_y am_m89) (am_cc am_m89) (am_ml am_m89) (am_rt am_m89)) := rfl
set_option maxRecDepth 20000 in
theorem am_c90 : am_at 5100 = some (Cond.code (am_y am_m90) (am_cc am_m90) (am_ml am_m90) (am_rt am_m90)) := rfl
set_option maxRecDepth 20000 in
theorem am_c91 : am_at 5103 = some (Cond.code (am_y am_m91) (am_cc am_m91) (am_ml am_m91) (am_rt am_m91)) := rfl
set_option maxRecDepth 20000 in
theorem am_c92 : am_at 5111 = some (Cond.code (am_y am_m92) (am_cc am_m92) (am_ml am_m92) (am_rt am_m92)) := rfl
set_option maxRecDepth 20000 in
theorem am_c93 : am_at 5115 = some (Cond.code (am_y am_m93) (am_cc am_m93) (am_ml am_m93) (am_rt am_m93)) := rfl
set_option maxRecDepth 20000 in
theorem am_c94 : am_at 5121 = some (Cond.code (am_y am_m94) (am_cc am_m94) (am_ml am_m94) (am_rt am_m94)) := rfl
set_option maxRecDepth 20000 in
theorem am_c95 : am_at 5125 = some (Cond.code (am_y am_m95) (am_cc am_m95) (am_ml am_m95) (am_rt am_m95)) := rfl
set_option maxRecDepth 20000 in
theorem am_c96 : am_at 5161 = some (Cond.code (am_y am_m96) (am_cc am_m96) (am_ml am_m96) (am_rt am_m96)) := rfl
set_option maxRecDepth 20000 in
theorem am_c97 : am_at 1034 = some (Cond.code (am_y am_m97) (am_cc am_m97) (am_ml am_m97) (am_rt am_m97)) := rfl
set_option maxRecDepth 20000 in
theorem am_c98 : am_at 2089 = some (Cond.code (am_y am_m98) (am_cc am_m98) (am_ml am_m98) (am_rt am_m98)) := rfl
set_option maxRecDepth 20000 in
theorem am_c99 : am_at 2103 = some (Cond.code (am_y am_m99) (am_cc am_m99) (am_ml am_m99) (am_rt am_m99)) := rfl
set_option maxRecDepth 20000 in
theorem am_c100 : am_at 2107 = some (Cond.code (am_y am_m100) (am_cc am_m100) (am_ml am_m100) (am_rt am_m100)) := rfl
set_option maxRecDepth 20000 in
theorem am_c101 : am_at 2116 = some (Cond.code (am_y am_m101) (am_cc am_m101) (am_ml am_m101) (am_rt am_m101)) := rfl
set_option maxRecDepth 20000 in
theorem am_c102 : am_at 2154 = some (Cond.code (am_y am_m102) (am_cc am_m102) (am_ml am_m102) (am_rt am_m102)) := rfl
set_option maxRecDepth 20000 in
theorem am_c103 : am_at 1079 = some (Cond.code (am_y am_m103) (am_cc am_m103) (am_ml am_m103) (am_rt am_m103)) := rfl
set_option maxRecDepth 20000 in
theorem am_c104 : am_at 3094 = some (Cond.code (am_y am_m104) (am_cc am_m104) (am_ml am_m104) (am_rt am_m104)) := rfl
set_option maxRecDepth 20000 in
theorem am_c105 : am_at 3098 = some (Cond.code (am_y am_m105) (am_cc am_m105) (am_ml am_m105) (am_rt am_m105)) := rfl
set_option maxRecDepth 20000 in
theorem am_c106 : am_at 3102 = some (Cond.code (am_y am_m106) (am_cc am_m106) (am_ml am_m106) (am_rt am_m106)) := rfl
set_option maxRecDepth 20000 in
theorem am_c107 : am_at 3108 = some (Cond.code (am_y am_m107) (am_cc am_m107) (am_ml am_m107) (am_rt am_m107)) := rfl
set_option maxRecDepth 20000 in
theorem am_c108 : am_at 3131 = some (Cond.code (am_y am_m108) (am_cc am_m108) (am_ml am_m108) (am_rt am_m108)) := rfl
set_option maxRecDepth 20000 in
theorem am_c109 : am_at 3135 = some (Cond.code (am_y am_m109) (am_cc am_m109) (am_ml am_m109) (am_rt am_m109)) := rfl
set_option maxRecDepth 20000 in
theorem am_c110 : am_at 3139 = some (Cond.code (am_y am_m110) (am_cc am_m110) (am_ml am_m110) (am_rt am_m110)) := rfl
set_option maxRecDepth 20000 in
theorem am_c111 : am_at 3149 = some (Cond.code (am_y am_m111) (am_cc am_m111) (am_ml am_m111) (am_rt am_m111)) := rfl
set_option maxRecDepth 20000 in
theorem am_c112 : am_at 3155 = some (Cond.code (am_y am_m112) (am_cc am_m112) (am_ml am_m112) (am_rt am_m112)) := rfl
set_option maxRecDepth 20000 in
theorem am_c113 : am_at 3160 = some (Cond.code (am_y am_m113) (am_cc am_m113) (am_ml am_m113) (am_rt am_m113)) := rfl
set_option maxRecDepth 20000 in
theorem am_c114 : am_at 3169 = some (Cond.code (am_y am_m114) (am_cc am_m114) (am_ml am_m114) (am_rt am_m114)) := rfl
set_option maxRecDepth 20000 in
theorem am_c115 : am_at 3173 = some (Cond.code (am_y am_m115) (am_cc am_m115) (am_ml am_m115) (am_rt am_m115)) := rfl
set_option maxRecDepth 20000 in
theorem am_c116 : am_at 1048 = some (Cond.code (am_y am_m116) (am_cc am_m116) (am_ml am_m116) (am_rt am_m116)) := rfl
set_option maxRecDepth 20000 in
theorem am_c117 : am_at 2145 = some (Cond.code (am_y am_m117) (am_cc am_m117) (am_ml am_m117) (am_rt am_m117)) := rfl
set_option maxRecDepth 20000 in
theorem am_c118 : am_at 2149 = some (Cond.code (am_y am_m118) (am_cc am_m118) (am_ml am_m118) (am_rt am_m118)) := rfl
set_option maxRecDepth 20000 in
theorem am_c119 : am_at 2157 = some (Cond.code (am_y am_m119) (am_cc am_m119) (am_ml am_m119) (am_rt am_m119)) := rfl
set_option maxRecDepth 20000 in
theorem am_c120 : am_at 2160 = some (Cond.code (am_y am_m120) (am_cc am_m120) (am_ml am_m120) (am_rt am_m120)) := rfl
set_option maxRecDepth 20000 in
theorem am_c121 : am_at 2164 = some (Cond.code (am_y am_m121) (am_cc am_m121) (am_ml am_m121) (am_rt am_m121)) := rfl
set_option maxRecDepth 20000 in
theorem am_c122 : am_at 2169 = some (Cond.code (am_y am_m122) (am_cc am_m122) (am_ml am_m122) (am_rt am_m122)) := rfl
set_option maxRecDepth 20000 in
theorem am_c123 : am_at 2236 = some (Cond.code (am_y am_m123) (am_cc am_m123) (am_ml am_m123) (am_rt am_m123)) := rfl
set_option maxRecDepth 20000 in
theorem am_c124 : am_at 3000 = some (Cond.code (am_y am_m124) (am_cc am_m124) (am_ml am_m124) (am_rt am_m124)) := rfl
set_option maxRecDepth 20000 in
theorem am_c125 : am_at 3005 = some (Cond.code (am_y am_m125) (am_cc am_m125) (am_ml am_m125) (am_rt am_m125)) := rfl
set_option maxRecDepth 20000 in
theorem am_c126 : am_at 3009 = some (Cond.code (am_y am_m126) (am_cc am_m126) (am_ml am_m126) (am_rt am_m126)) := rfl
set_option maxRecDepth 20000 in
theorem am_c127 : am_at 3023 = some (Cond.code (am_y am_m127) (am_cc am_m127) (am_ml am_m127) (am_rt am_m127)) := rfl
set_option maxRecDepth 20000 in
theorem am_c128 : am_at 3038 = some (Cond.code (am_y am_m128) (am_cc am_m128) (am_ml am_m128) (am_rt am_m128)) := rfl
set_option maxRecDepth 20000 in
theorem am_c129 : am_at 3043 = some (Cond.code (am_y am_m129) (am_cc am_m129) (am_ml am_m129) (am_rt am_m129)) := rfl
set_option maxRecDepth 20000 in
theorem am_c130 : am_at 3049 = some (Cond.code (am_y am_m130) (am_cc am_m130) (am_ml am_m130) (am_rt am_m130)) := rfl
set_option maxRecDepth 20000 in
theorem am_c131 : am_at 3067 = some (Cond.code (am_y am_m131) (am_cc am_m131) (am_ml am_m131) (am_rt am_m131)) := rfl
set_option maxRecDepth 20000 in
theorem am_c132 : am_at 3119 = some (Cond.code (am_y am_m132) (am_cc am_m132) (am_ml am_m132) (am_rt am_m132)) := rfl
set_option maxRecDepth 20000 in
theorem am_c133 : am_at 3124 = some (Cond.code (am_y am_m133) (am_cc am_m133) (am_ml am_m133) (am_rt am_m133)) := rfl
set_option maxRecDepth 20000 in
theorem am_c134 : am_at 3143 = some (Cond.code (am_y am_m134) (am_cc am_m134) (am_ml am_m134) (am_rt am_m134)) := rfl
set_option maxRecDepth 20000 in
theorem am_c135 : am_at 3218 = some (Cond.code (am_y am_m135) (am_cc am_m135) (am_ml am_m135) (am_rt am_m135)) := rfl
set_option maxRecDepth 20000 in
theorem am_c136 : am_at 1026 = some (Cond.code (am_y am_m136) (am_cc am_m136) (am_ml am_m136) (am_rt am_m136)) := rfl
set_option maxRecDepth 20000 in
theorem am_c137 : am_at 2085 = some (Cond.code (am_y am_m137) (am_cc am_m137) (am_ml am_m137) (am_rt am_m137)) := rfl
set_option maxRecDepth 20000 in
theorem am_c138 : am_at 2093 = some (Cond.code (am_y am_m138) (am_cc am_m138) (am_ml am_m138) (am_rt am_m138)) := rfl
set_option maxRecDepth 20000 in
theorem am_c139 : am_at 2096 = some (Cond.code (am_y am_m139) (am_cc am_m139) (am_ml am_m139) (am_rt am_m139)) := rfl
set_option maxRecDepth 20000 in
theorem am_c140 : am_at 2099 = some (Cond.code (am_y am_m140) (am_cc am_m140) (am_ml am_m140) (am_rt am_m140)) := rfl
set_option maxRecDepth 20000 in
theorem am_c141 : am_at 2112 = some (Cond.code (am_y am_m141) (am_cc am_m141) (am_ml am_m141) (am_rt am_m141)) := rfl
set_option maxRecDepth 20000 in
theorem am_c142 : am_at 2126 = some (Cond.code (am_y am_m142) (am_cc am_m142) (am_ml am_m142) (am_rt am_m142)) := rfl
set_option maxRecDepth 20000 in
theorem am_c143 : am_at 3213 = some (Cond.code (am_y am_m143) (am_cc am_m143) (am_ml am_m143) (am_rt am_m143)) := rfl
set_option maxRecDepth 20000 in
theorem am_c144 : am_at 3222 = some (Cond.code (am_y am_m144) (am_cc am_m144) (am_ml am_m144) (am_rt am_m144)) := rfl
set_option maxRecDepth 20000 in
theorem am_c145 : am_at 4086 = some (Cond.code (am_y am_m145) (am_cc am_m145) (am_ml am_m145) (am_rt am_m145)) := rfl
set_option maxRecDepth 20000 in
theorem am_c146 : am_at 4095 = some (Cond.code (am_y am_m146) (am_cc am_m146) (am_ml am_m146) (am_rt am_m146)) := rfl
set_option maxRecDepth 20000 in
theorem am_c147 : am_at 4106 = some (Cond.code (am_y am_m147) (am_cc am_m147) (am_ml am_m147) (am_rt am_m147)) := rfl
set_option maxRecDepth 20000 in
theorem am_c148 : am_at 4123 = some (Cond.code (am_y am_m148) (am_cc am_m148) (am_ml am_m148) (am_rt am_m148)) := rfl
set_option maxRecDepth 20000 in
theorem am_c149 : am_at 4127 = some (Cond.code (am_y am_m149) (am_cc am_m149) (am_ml am_m149) (am_rt am_m149)) := rfl
set_option maxRecDepth 20000 in
theorem am_c150 : am_at 4132 = some (Cond.code (am_y am_m150) (am_cc am_m150) (am_ml am_m150) (am_rt am_m150)) := rfl
set_option maxRecDepth 20000 in
theorem am_c151 : am_at 4141 = some (Cond.code (am_y am_m151) (am_cc am_m151) (am_ml am_m151) (am_rt am_m151)) := rfl
set_option maxRecDepth 20000 in
theorem am_c152 : am_at 4181 = some (Cond.code (am_y am_m152) (am_cc am_m152) (am_ml am_m152) (am_rt am_m152)) := rfl
set_option maxRecDepth 20000 in
theorem am_c153 : am_at 4185 = some (Cond.code (am_y am_m153) (am_cc am_m153) (am_ml am_m153) (am_rt am_m153)) := rfl
set_option maxRecDepth 20000 in
theorem am_c154 : am_at 4229 = some (Cond.code (am_y am_m154) (am_cc am_m154) (am_ml am_m154) (am_rt am_m154)) := rfl
set_option maxRecDepth 20000 in
theorem am_c155 : am_at 4237 = some (Cond.code (am_y am_m155) (am_cc am_m155) (am_ml am_m155) (am_rt am_m155)) := rfl
set_option maxRecDepth 20000 in
theorem am_c156 : am_at 5009 = some (Cond.code (am_y am_m156) (am_cc am_m156) (am_ml am_m156) (am_rt am_m156)) := rfl
set_option maxRecDepth 20000 in
theorem am_c157 : am_at 5020 = some (Cond.code (am_y am_m157) (am_cc am_m157) (am_ml am_m157) (am_rt am_m157)) := rfl
set_option maxRecDepth 20000 in
theorem am_c158 : am_at 5024 = some (Cond.code (am_y am_m158) (am_cc am_m158) (am_ml am_m158) (am_rt am_m158)) := rfl
set_option maxRecDepth 20000 in
theorem am_c159 : am_at 5035 = some (Cond.code (am_y am_m159) (am_cc am_m159) (am_ml am_m159) (am_rt am_m159)) := rfl
set_option maxRecDepth 20000 in
theorem am_c160 : am_at 5039 = some (Cond.code (am_y am_m160) (am_cc am_m160) (am_ml am_m160) (am_rt am_m160)) := rfl
set_option maxRecDepth 20000 in
theorem am_c161 : am_at 5049 = some (Cond.code (am_y am_m161) (am_cc am_m161) (am_ml am_m161) (am_rt am_m161)) := rfl
set_option maxRecDepth 20000 in
theorem am_c162 : am_at 5053 = some (Cond.code (am_y am_m162) (am_cc am_m162) (am_ml am_m162) (am_rt am_m162)) := rfl
set_option maxRecDepth 20000 in
theorem am_c163 : am_at 5057 = some (Cond.code (am_y am_m163) (am_cc am_m163) (am_ml am_m163) (am_rt am_m163)) := rfl
set_option maxRecDepth 20000 in
theorem am_c164 : am_at 5071 = some (Cond.code (am_y am_m164) (am_cc am_m164) (am_ml am_m164) (am_rt am_m164)) := rfl
set_option maxRecDepth 20000 in
theorem am_c165 : am_at 5087 = some (Cond.code (am_y am_m165) (am_cc am_m165) (am_ml am_m165) (am_rt am_m165)) := rfl
set_option maxRecDepth 20000 in
theorem am_c166 : am_at 5092 = some (Cond.code (am_y am_m166) (am_cc am_m166) (am_ml am_m166) (am_rt am_m166)) := rfl
set_option maxRecDepth 20000 in
theorem am_c167 : am_at 5107 = some (Cond.code (am_y am_m167) (am_cc am_m167) (am_ml am_m167) (am_rt am_m167)) := rfl
set_option maxRecDepth 20000 in
theorem am_c168 : am_at 5132 = some (Cond.code (am_y am_m168) (am_cc am_m168) (am_ml am_m168) (am_rt am_m168)) := rfl
set_option maxRecDepth 20000 in
theorem am_c169 : am_at 5136 = some (Cond.code (am_y am_m169) (am_cc am_m169) (am_ml am_m169) (am_rt am_m169)) := rfl
set_option maxRecDepth 20000 in
theorem am_c170 : am_at 5144 = some (Cond.code (am_y am_m170) (am_cc am_m170) (am_ml am_m170) (am_rt am_m170)) := rfl
set_option maxRecDepth 20000 in
theorem am_c171 : am_at 5148 = some (Cond.code (am_y am_m171) (am_cc am_m171) (am_ml am_m171) (am_rt am_m171)) := rfl
set_option maxRecDepth 20000 in
theorem am_c172 : am_at 5157 = some (Cond.code (am_y am_m172) (am_cc am_m172) (am_ml am_m172) (am_rt am_m172)) := rfl
set_option maxRecDepth 20000 in
theorem am_c173 : am_at 5165 = some (Cond.code (am_y am_m173) (am_cc am_m173) (am_ml am_m173) (am_rt am_m173)) := rfl
set_option maxRecDepth 20000 in
theorem am_c174 : am_at 5169 = some (Cond.code (am_y am_m174) (am_cc am_m174) (am_ml am_m174) (am_rt am_m174)) := rfl
set_option maxRecDepth 20000 in
theorem am_c175 : am_at 5210 = some (Cond.code (am_y am_m175) (am_cc am_m175) (am_ml am_m175) (am_rt am_m175)) := rfl
set_option maxRecDepth 20000 in
theorem am_c176 : am_at 5213 = some (Cond.code (am_y am_m176) (am_cc am_m176) (am_ml am_m176) (am_rt am_m176)) := rfl
set_option maxRecDepth 20000 in
theorem am_c177 : am_at 5217 = some (Cond.code (am_y am_m177) (am_cc am_m177) (am_ml am_m177) (am_rt am_m177)) := rfl
set_option maxRecDepth 20000 in
theorem am_c178 : am_at 5221 = some (Cond.code (am_y am_m178) (am_cc am_m178) (am_ml am_m178) (am_rt am_m178)) := rfl
set_option maxRecDepth 20000 in
theorem am_c179 : am_at 5225 = some (Cond.code (am_y am_m179) (am_cc am_m179) (am_ml am_m179) (am_rt am_m179)) := rfl
set_option maxRecDepth 20000 in
theorem am_c180 : am_at 5230 = some (Cond.code (am_y am_m180) (am_cc am_m180) (am_ml am_m180) (am_rt am_m180)) := rfl
set_option maxRecDepth 20000 in
theorem am_c181 : am_at 5235 = some (Cond.code (am_y am_m181) (am_cc am_m181) (am_ml am_m181) (am_rt am_m181)) := rfl
set_option maxRecDepth 20000 in
theorem am_c182 : am_at 7048 = some (Cond.code (am_y am_m182) (am_cc am_m182) (am_ml am_m182) (am_rt am_m182)) := rfl
set_option maxRecDepth 20000 in
theorem am_c183 : am_at 7052 = some (Cond.code (am_y am_m183) (am_cc am_m183) (am_ml am_m183) (am_rt am_m183)) := rfl
set_option maxRecDepth 20000 in
theorem am_c184 : am_at 7056 = some (Cond.code (am_y am_m184) (am_cc am_m184) (am_ml am_m184) (am_rt am_m184)) := rfl
set_option maxRecDepth 20000 in
theorem am_c185 : am_at 7060 = some (Cond.code (am_y am_m185) (am_cc am_m185) (am_ml am_m185) (am_rt am_m185)) := rfl
set_option maxRecDepth 20000 in
theorem am_c186 : am_at 7064 = some (Cond.code (am_y am_m186) (am_cc am_m186) (am_ml am_m186) (am_rt am_m186)) := rfl
set_option maxRecDepth 20000 in
theorem am_c187 : am_at 7068 = some (Cond.code (am_y am_m187) (am_cc am_m187) (am_ml am_m187) (am_rt am_m187)) := rfl
set_option maxRecDepth 20000 in
theorem am_c188 : am_at 7072 = some (Cond.code (am_y am_m188) (am_cc am_m188) (am_ml am_m188) (am_rt am_m188)) := rfl
set_option maxRecDepth 20000 in
theorem am_c189 : am_at 7076 = some (Cond.code (am_y am_m189) (am_cc am_m189) (am_ml am_m189) (am_rt am_m189)) := rfl
set_option maxRecDepth 20000 in
theorem am_c190 : am_at 7079 = some (Cond.code (am_y am_m190) (am_cc am_m190) (am_ml am_m190) (am_rt am_m190)) := rfl
set_option maxRecDepth 20000 in
theorem am_c191 : am_at 7083 = some (Cond.code (am_y am_m191) (am_cc am_m191) (am_ml am_m191) (am_rt am_m191)) := rfl
set_option maxRecDepth 20000 in
theorem am_c192 : am_at 7087 = some (Cond.code (am_y am_m192) (am_cc am_m192) (am_ml am_m192) (am_rt am_m192)) := rfl
set_option maxRecDepth 20000 in
theorem am_c193 : am_at 7091 = some (Cond.code (am_y am_m193) (am_cc am_m193) (am_ml am_m193) (am_rt am_m193)) := rfl
set_option maxRecDepth 20000 in
theorem am_c194 : am_at 7095 = some (Cond.code (am_y am_m194) (am_cc am_m194) (am_ml am_m194) (am_rt am_m194)) := rfl
set_option maxRecDepth 20000 in
theorem am_c195 : am_at 7099 = some (Cond.code (am_y am_m195) (am_cc am_m195) (am_ml am_m195) (am_rt am_m195)) := rfl
set_option maxRecDepth 20000 in
theorem am_c196 : am_at 7105 = some (Cond.code (am_y am_m196) (am_cc am_m196) (am_ml am_m196) (am_rt am_m196)) := rfl
set_option maxRecDepth 20000 in
theorem am_c197 : am_at 7109 = some (Cond.code (am_y am_m197) (am_cc am_m197) (am_ml am_m197) (am_rt am_m197)) := rfl
set_option maxRecDepth 20000 in
theorem am_c198 : am_at 7113 = some (Cond.code (am_y am_m198) (am_cc am_m198) (am_ml am_m198) (am_rt am_m198)) := rfl
set_option maxRecDepth 20000 in
theorem am_c199 : am_at 7116 = some (Cond.code (am_y am_m199) (am_cc am_m199) (am_ml am_m199) (am_rt am_m199)) := rfl
set_option maxRecDepth 20000 in
theorem am_c200 : am_at 7119 = some (Cond.code (am_y am_m200) (am_cc am_m200) (am_ml am_m200) (am_rt am_m200)) := rfl
set_option maxRecDepth 20000 in
theorem am_c201 : am_at 7123 = some (Cond.code (am_y am_m201) (am_cc am_m201) (am_ml am_m201) (am_rt am_m201)) := rfl
set_option maxRecDepth 20000 in
theorem am_c202 : am_at 7127 = some (Cond.code (am_y am_m202) (am_cc am_m202) (am_ml am_m202) (am_rt am_m202)) := rfl
set_option maxRecDepth 20000 in
theorem am_c203 : am_at 7131 = some (Cond.code (am_y am_m203) (am_cc am_m203) (am_ml am_m203) (am_rt am_m203)) := rfl
set_option maxRecDepth 20000 in
theorem am_c204 : am_at 7135 = some (Cond.code (am_y am_m204) (am_cc am_m204) (am_ml am_m204) (am_rt am_m204)) := rfl
set_option maxRecDepth 20000 in
theorem am_c205 : am_at 7139 = some (Cond.code (am_y am_m205) (am_cc am_m205) (am_ml am_m205) (am_rt am_m205)) := rfl
set_option maxRecDepth 20000 in
theorem am_c206 : am_at 7143 = some (Cond.code (am_y am_m206) (am_cc am_m206) (am_ml am_m206) (am_rt am_m206)) := rfl
set_option maxRecDepth 20000 in
theorem am_c207 : am_at 7147 = some (Cond.code (am_y am_m207) (am_cc am_m207) (am_ml am_m207) (am_rt am_m207)) := rfl
set_option maxRecDepth 20000 in
theorem am_c208 : am_at 7151 = some (Cond.code (am_y am_m208) (am_cc am_m208) (am_ml am_m208) (am_rt am_m208)) := rfl
set_option maxRecDepth 20000 in
theorem am_c209 : am_at 7155 = some (Cond.code (am_y am_m209) (am_cc am_m209) (am_ml am_m209) (am_rt am_m209)) := rfl
set_option maxRecDepth 20000 in
theorem am_c210 : am_at 7159 = some (Cond.code (am_y am_m210) (am_cc am_m210) (am_ml am_m210) (am_rt am_m210)) := rfl
set_option maxRecDepth 20000 in
theorem am_c211 : am_at 7163 = some (Cond.code (am_y am_m211) (am_cc am_m211) (am_ml am_m211) (am_rt am_m211)) := rfl
set_option maxRecDepth 20000 in
theorem am_c212 : am_at 7167 = some (Cond.code (am_y am_m212) (am_cc am_m212) (am_ml am_m212) (am_rt am_m212)) := rfl
set_option maxRecDepth 20000 in
theorem am_c213 : am_at 7171 = some (Cond.code (am_y am_m213) (am_cc am_m213) (am_ml am_m213) (am_rt am_m213)) := rfl
set_option maxRecDepth 20000 in
theorem am_c214 : am_at 7175 = some (Cond.code (am_y am_m214) (am_cc am_m214) (am_ml am_m214) (am_rt am_m214)) := rfl
set_option maxRecDepth 20000 in
theorem am_c215 : am_at 7179 = some (Cond.code (am_y am_m215) (am_cc am_m215) (am_ml am_m215) (am_rt am_m215)) := rfl
set_option maxRecDepth 20000 in
theorem am_c216 : am_at 7183 = some (Cond.code (am_y am_m216) (am_cc am_m216) (am_ml am_m216) (am_rt am_m216)) := rfl
set_option maxRecDepth 20000 in
theorem am_c217 : am_at 7187 = some (Cond.code (am_y am_m217) (am_cc am_m217) (am_ml am_m217) (am_rt am_m217)) := rfl
set_option maxRecDepth 20000 in
theorem am_c218 : am_at 7191 = some (Cond.code (am_y am_m218) (am_cc am_m218) (am_ml am_m218) (am_rt am_m218)) := rfl
set_option maxRecDepth 20000 in
theorem am_c219 : am_at 7195 = some (Cond.code (am_y am_m219) (am_cc am_m219) (am_ml am_m219) (am_rt am_m219)) := rfl
set_option maxRecDepth 20000 in
theorem am_c220 : am_at 7198 = some (Cond.code (am_y am_m220) (am_cc am_m220) (am_ml am_m220) (am_rt am_m220)) := rfl
set_option maxRecDepth 20000 in
theorem am_c221 : am_at 7202 = some (Cond.code (am_y am_m221) (am_cc am_m221) (am_ml am_m221) (am_rt am_m221)) := rfl
set_option maxRecDepth 20000 in
theorem am_c222 : am_at 7206 = some (Cond.code (am_y am_m222) (am_cc am_m222) (am_ml am_m222) (am_rt am_m222)) := rfl
set_option maxRecDepth 20000 in
theorem am_c223 : am_at 7210 = some (Cond.code (am_y am_m223) (am_cc am_m223) (am_ml am_m223) (am_rt am_m223)) := rfl
set_option maxRecDepth 20000 in
theorem am_c224 : am_at 7214 = some (Cond.code (am_y am_m224) (am_cc am_m224) (am_ml am_m224) (am_rt am_m224)) := rfl
set_option maxRecDepth 20000 in
theorem am_c225 : am_at 7218 = some (Cond.code (am_y am_m225) (am_cc am_m225) (am_ml am_m225) (am_rt am_m225)) := rfl
set_option maxRecDepth 20000 in
theorem am_c226 : am_at 7222 = some (Cond.code (am_y am_m226) (am_cc am_m226) (am_ml am_m226) (am_rt am_m226)) := rfl
set_option maxRecDepth 20000 in
theorem am_c227 : am_at 7226 = some (Cond.code (am_y am_m227) (am_cc am_m227) (am_ml am_m227) (am_rt am_m227)) := rfl
set_option maxRecDepth 20000 in
theorem am_c228 : am_at 7230 = some (Cond.code (am_y am_m228) (am_cc am_m228) (am_ml am_m228) (am_rt am_m228)) := rfl
set_option maxRecDepth 20000 in
theorem am_c229 : am_at 7234 = some (Cond.code (am_y am_m229) (am_cc am_m229) (am_ml am_m229) (am_rt am_m229)) := rfl
set_option maxRecDepth 20000 in
theorem am_c230 : am_at 7238 = some (Cond.code (am_y am_m230) (am_cc am_m230) (am_ml am_m230) (am_rt am_m230)) := rfl
set_option maxRecDepth 20000 in
theorem am_c231 : am_at 8002 = some (Cond.code (am_y am_m231) (am_cc am_m231) (am_ml am_m231) (am_rt am_m231)) := rfl
set_option maxRecDepth 20000 in
theorem am_c232 : am_at 8006 = some (Cond.code (am_y am_m232) (am_cc am_m232) (am_ml am_m232) (am_rt am_m232)) := rfl
set_option maxRecDepth 20000 in
theorem am_c233 : am_at 8010 = some (Cond.code (am_y am_m233) (am_cc am_m233) (am_ml am_m233) (am_rt am_m233)) := rfl
set_option maxRecDepth 20000 in
theorem am_c234 : am_at 8014 = some (Cond.code (am_y am_m234) (am_cc am_m234) (am_ml am_m234) (am_rt am_m234)) := rfl
set_option maxRecDepth 20000 in
theorem am_c235 : am_at 8018 = some (Cond.code (am_y am_m235) (am_cc am_m235) (am_ml am_m235) (am_rt am_m235)) := rfl
set_option maxRecDepth 20000 in
theorem am_c236 : am_at 8022 = some (Cond.code (am_y am_m236) (am_cc am_m236) (am_ml am_m236) (am_rt am_m236)) := rfl
set_option maxRecDepth 20000 in
theorem am_c237 : am_at 8026 = some (Cond.code (am_y am_m237) (am_cc am_m237) (am_ml am_m237) (am_rt am_m237)) := rfl
set_option maxRecDepth 20000 in
theorem am_c238 : am_at 8031 = some (Cond.code (am_y am_m238) (am_cc am_m238) (am_ml am_m238) (am_rt am_m238)) := rfl
set_option maxRecDepth 20000 in
theorem am_c239 : am_at 8035 = some (Cond.code (am_y am_m239) (am_cc am_m239) (am_ml am_m239) (am_rt am_m239)) := rfl
set_option maxRecDepth 20000 in
theorem am_c240 : am_at 8038 = some (Cond.code (am_y am_m240) (am_cc am_m240) (am_ml am_m240) (am_rt am_m240)) := rfl
set_option maxRecDepth 20000 in
theorem am_c241 : am_at 8044 = some (Cond.code (am_y am_m241) (am_cc am_m241) (am_ml am_m241) (am_rt am_m241)) := rfl
set_option maxRecDepth 20000 in
theorem am_c242 : am_at 8047 = some (Cond.code (am_y am_m242) (am_cc am_m242) (am_ml am_m242) (am_rt am_m242)) := rfl
set_option maxRecDepth 20000 in
theorem am_c243 : am_at 8051 = some (Cond.code (am_y am_m243) (am_cc am_m243) (am_ml am_m243) (am_rt am_m243)) := rfl
set_option maxRecDepth 20000 in
theorem am_c244 : am_at 8055 = some (Cond.code (am_y am_m244) (am_cc am_m244) (am_ml am_m244) (am_rt am_m244)) := rfl
set_option maxRecDepth 20000 in
theorem am_c245 : am_at 8059 = some (Cond.code (am_y am_m245) (am_cc am_m245) (am_ml am_m245) (am_rt am_m245)) := rfl
set_option maxRecDepth 20000 in
theorem am_c246 : am_at 8062 = some (Cond.code (am_y am_m246) (am_cc am_m246) (am_ml am_m246) (am_rt am_m246)) := rfl
set_option maxRecDepth 20000 in
theorem am_c247 : am_at 8066 = some (Cond.code (am_y am_m247) (am_cc am_m247) (am_ml am_m247) (am_rt am_m247)) := rfl
set_option maxRecDepth 20000 in
theorem am_c248 : am_at 8072 = some (Cond.code (am_y am_m248) (am_cc am_m248) (am_ml am_m248) (am_rt am_m248)) := rfl
set_option maxRecDepth 20000 in
theorem am_c249 : am_at 8076 = some (Cond.code (am_y am_m249) (am_cc am_m249) (am_ml am_m249) (am_rt am_m249)) := rfl
set_option maxRecDepth 20000 in
theorem am_c250 : am_at 8080 = some (Cond.code (am_y am_m250) (am_cc am_m250) (am_ml am_m250) (am_rt am_m250)) := rfl
set_option maxRecDepth 20000 in
theorem am_c251 : am_at 8084 = some (Cond.code (am_y am_m251) (am_cc am_m251) (am_ml am_m251) (am_rt am_m251)) := rfl
set_option maxRecDepth 20000 in
theorem am_c252 : am_at 8089 = some (Cond.code (am_y am_m252) (am_cc am_m252) (am_ml am_m252) (am_rt am_m252)) := rfl
set_option maxRecDepth 20000 in
theorem am_c253 : am_at 8093 = some (Cond.code (am_y am_m253) (am_cc am_m253) (am_ml am_m253) (am_rt am_m253)) := rfl
set_option maxRecDepth 20000 in
theorem am_c254 : am_at 8097 = some (Cond.code (am_y am_m254) (am_cc am_m254) (am_ml am_m254) (am_rt am_m254)) := rfl
set_option maxRecDepth 20000 in
theorem am_c255 : am_at 8101 = some (Cond.code (am_y am_m255) (am_cc am_m255) (am_ml am_m255) (am_rt am_m255)) := rfl
set_option maxRecDepth 20000 in
theorem am_c256 : am_at 8105 = some (Cond.code (am_y am_m256) (am_cc am_m256) (am_ml am_m256) (am_rt am_m256)) := rfl
set_option maxRecDepth 20000 in
theorem am_c257 : am_at 8109 = some (Cond.code (am_y am_m257) (am_cc am_m257) (am_ml am_m257) (am_rt am_m257)) := rfl
set_option maxRecDepth 20000 in
theorem am_c258 : am_at 8114 = some (Cond.code (am_y am_m258) (am_cc am_m258) (am_ml am_m258) (am_rt am_m258)) := rfl
set_option maxRecDepth 20000 in
theorem am_c259 : am_at 8118 = some (Cond.code (am_y am_m259) (am_cc am_m259) (am_ml am_m259) (am_rt am_m259)) := rfl
set_option maxRecDepth 20000 in
theorem am_c260 : am_at 8123 = some (Cond.code (am_y am_m260) (am_cc am_m260) (am_ml am_m260) (am_rt am_m260)) := rfl
set_option maxRecDepth 20000 in
theorem am_c261 : am_at 8127 = some (Cond.code (am_y am_m261) (am_cc am_m261) (am_ml am_m261) (am_rt am_m261)) := rfl
set_option maxRecDepth 20000 in
theorem am_c262 : am_at 8131 = some (Cond.code (am_y am_m262) (am_cc am_m262) (am_ml am_m262) (am_rt am_m262)) := rfl
set_option maxRecDepth 20000 in
theorem am_c263 : am_at 8135 = some (Cond.code (am_y am_m263) (am_cc am_m263) (am_ml am_m263) (am_rt am_m263)) := rfl
set_option maxRecDepth 20000 in
theorem am_c264 : am_at 8139 = some (Cond.code (am_y am_m264) (am_cc am_m264) (am_ml am_m264) (am_rt am_m264)) := rfl
set_option maxRecDepth 20000 in
theorem am_c265 : am_at 8143 = some (Cond.code (am_y am_m265) (am_cc am_m265) (am_ml am_m265) (am_rt am_m265)) := rfl
set_option maxRecDepth 20000 in
theorem am_c266 : am_at 8147 = some (Cond.code (am_y am_m266) (am_cc am_m266) (am_ml am_m266) (am_rt am_m266)) := rfl
set_option maxRecDepth 20000 in
theorem am_c267 : am_at 8151 = some (Cond.code (am_y am_m267) (am_cc am_m267) (am_ml am_m267) (am_rt am_m267)) := rfl
set_option maxRecDepth 20000 in
theorem am_c268 : am_at 8155 = some (Cond.code (am_y am_m268) (am_cc am_m268) (am_ml am_m268) (am_rt am_m268)) := rfl
set_option maxRecDepth 20000 in
theorem am_c269 : am_at 8159 = some (Cond.code (am_y am_m269) (am_cc am_m269) (am_ml am_m269) (am_rt am_m269)) := rfl
set_option maxRecDepth 20000 in
theorem am_c270 : am_at 8163 = some (Cond.code (am_y am_m270) (am_cc am_m270) (am_ml am_m270) (am_rt am_m270)) := rfl
set_option maxRecDepth 20000 in
theorem am_c271 : am_at 8167 = some (Cond.code (am_y am_m271) (am_cc am_m271) (am_ml am_m271) (am_rt am_m271)) := rfl
set_option maxRecDepth 20000 in
theorem am_c272 : am_at 8171 = some (Cond.code (am_y am_m272) (am_cc am_m272) (am_ml am_m272) (am_rt am_m272)) := rfl
set_option maxRecDepth 20000 in
theorem am_c273 : am_at 8175 = some (Cond.code (am_y am_m273) (am_cc am_m273) (am_ml am_m273) (am_rt am_m273)) := rfl
set_option maxRecDepth 20000 in
theorem am_c274 : am_at 8179 = some (Cond.code (am_y am_m274) (am_cc am_m274) (am_ml am_m274) (am_rt am_m274)) := rfl
set_option maxRecDepth 20000 in
theorem am_c275 : am_at 8183 = some (Cond.code (am_y am_m275) (am_cc am_m275) (am_ml am_m275) (am_rt am_m275)) := rfl
set_option maxRecDepth 20000 in
theorem am_c276 : am_at 8187 = some (Cond.code (am_y am_m276) (am_cc am_m276) (am_ml am_m276) (am_rt am_m276)) := rfl
set_option maxRecDepth 20000 in
theorem am_c277 : am_at 8191 = some (Cond.code (am_y am_m277) (am_cc am_m277) (am_ml am_m277) (am_rt am_m277)) := rfl
set_option maxRecDepth 20000 in
theorem am_c278 : am_at 8195 = some (Cond.code (am_y am_m278) (am_cc am_m278) (am_ml am_m278) (am_rt am_m278)) := rfl
set_option maxRecDepth 20000 in
theorem am_c279 : am_at 8199 = some (Cond.code (am_y am_m279) (am_cc am_m279) (am_ml am_m279) (am_rt am_m279)) := rfl
set_option maxRecDepth 20000 in
theorem am_c280 : am_at 8202 = some (Cond.code (am_y am_m280) (am_cc am_m280) (am_ml am_m280) (am_rt am_m280)) := rfl
set_option maxRecDepth 20000 in
theorem am_c281 : am_at 8206 = some (Cond.code (am_y am_m281) (am_cc am_m281) (am_ml am_m281) (am_rt am_m281)) := rfl
set_option maxRecDepth 20000 in
theorem am_c282 : am_at 8210 = some (Cond.code (am_y am_m282) (am_cc am_m282) (am_ml am_m282) (am_rt am_m282)) := rfl
set_option maxRecDepth 20000 in
theorem am_c283 : am_at 8214 = some (Cond.code (am_y am_m283) (am_cc am_m283) (am_ml am_m283) (am_rt am_m283)) := rfl
set_option maxRecDepth 20000 in
theorem am_c284 : am_at 8218 = some (Cond.code (am_y am_m284) (am_cc am_m284) (am_ml am_m284) (am_rt am_m284)) := rfl
set_option maxRecDepth 20000 in
theorem am_c285 : am_at 8222 = some (Cond.code (am_y am_m285) (am_cc am_m285) (am_ml am_m285) (am_rt am_m285)) := rfl
set_option maxRecDepth 20000 in
theorem am_c286 : am_at 8226 = some (Cond.code (am_y am_m286) (am_cc am_m286) (am_ml am_m286) (am_rt am_m286)) := rfl
set_option maxRecDepth 20000 in
theorem am_c287 : am_at 8230 = some (Cond.code (am_y am_m287) (am_cc am_m287) (am_ml am_m287) (am_rt am_m287)) := rfl
set_option maxRecDepth 20000 in
theorem am_c288 : am_at 8234 = some (Cond.code (am_y am_m288) (am_cc am_m288) (am_ml am_m288) (am_rt am_m288)) := rfl
set_option maxRecDepth 20000 in
theorem am_c289 : am_at 8238 = some (Cond.code (am_y am_m289) (am_cc am_m289) (am_ml am_m289) (am_rt am_m289)) := rfl
set_option maxRecDepth 20000 in
theorem am_c290 : am_at 9002 = some (Cond.code (am_y am_m290) (am_cc am_m290) (am_ml am_m290) (am_rt am_m290)) := rfl
set_option maxRecDepth 20000 in
theorem am_c291 : am_at 9006 = some (Cond.code (am_y am_m291) (am_cc am_m291) (am_ml am_m291) (am_rt am_m291)) := rfl
set_option maxRecDepth 20000 in
theorem am_c292 : am_at 9010 = some (Cond.code (am_y am_m292) (am_cc am_m292) (am_ml am_m292) (am_rt am_m292)) := rfl
set_option maxRecDepth 20000 in
theorem am_c293 : am_at 9014 = some (Cond.code (am_y am_m293) (am_cc am_m293) (am_ml am_m293) (am_rt am_m293)) := rfl
set_option maxRecDepth 20000 in
theorem am_c294 : am_at 9018 = some (Cond.code (am_y am_m294) (am_cc am_m294) (am_ml am_m294) (am_rt am_m294)) := rfl
set_option maxRecDepth 20000 in
theorem am_c295 : am_at 9022 = some (Cond.code (am_y am_m295) (am_cc am_m295) (am_ml am_m295) (am_rt am_m295)) := rfl
set_option maxRecDepth 20000 in
theorem am_c296 : am_at 9026 = some (Cond.code (am_y am_m296) (am_cc am_m296) (am_ml am_m296) (am_rt am_m296)) := rfl
set_option maxRecDepth 20000 in
theorem am_c297 : am_at 9031 = some (Cond.code (am_y am_m297) (am_cc am_m297) (am_ml am_m297) (am_rt am_m297)) := rfl
set_option maxRecDepth 20000 in
theorem am_c298 : am_at 9039 = some (Cond.code (am_y am_m298) (am_cc am_m298) (am_ml am_m298) (am_rt am_m298)) := rfl
set_option maxRecDepth 20000 in
theorem am_c299 : am_at 9043 = some (Cond.code (am_y am_m299) (am_cc am_m299) (am_ml am_m299) (am_rt am_m299)) := rfl
set_option maxRecDepth 20000 in
theorem am_c300 : am_at 9048 = some (Cond.code (am_y am_m300) (am_cc am_m300) (am_ml am_m300) (am_rt am_m300)) := rfl
set_option maxRecDepth 20000 in
theorem am_c301 : am_at 9052 = some (Cond.code (am_y am_m301) (am_cc am_m301) (am_ml am_m301) (am_rt am_m301)) := rfl
set_option maxRecDepth 20000 in
theorem am_c302 : am_at 9056 = some (Cond.code (am_y am_m302) (am_cc am_m302) (am_ml am_m302) (am_rt am_m302)) := rfl
set_option maxRecDepth 20000 in
theorem am_c303 : am_at 9060 = some (Cond.code (am_y am_m303) (am_cc am_m303) (am_ml am_m303) (am_rt am_m303)) := rfl
set_option maxRecDepth 20000 in
theorem am_c304 : am_at 9063 = some (Cond.code (am_y am_m304) (am_cc am_m304) (am_ml am_m304) (am_rt am_m304)) := rfl
set_option maxRecDepth 20000 in
theorem am_c305 : am_at 9067 = some (Cond.code (am_y am_m305) (am_cc am_m305) (am_ml am_m305) (am_rt am_m305)) := rfl
set_option maxRecDepth 20000 in
theorem am_c306 : am_at 9071 = some (Cond.code (am_y am_m306) (am_cc am_m306) (am_ml am_m306) (am_rt am_m306)) := rfl
set_option maxRecDepth 20000 in
theorem am_c307 : am_at 9075 = some (Cond.code (am_y am_m307) (am_cc am_m307) (am_ml am_m307) (am_rt am_m307)) := rfl
set_option maxRecDepth 20000 in
theorem am_c308 : am_at 9079 = some (Cond.code (am_y am_m308) (am_cc am_m308) (am_ml am_m308) (am_rt am_m308)) := rfl
set_option maxRecDepth 20000 in
theorem am_c309 : am_at 4020 = some (Cond.code (am_y am_m309) (am_cc am_m309) (am_ml am_m309) (am_rt am_m309)) := rfl
set_option maxRecDepth 20000 in
theorem am_c310 : am_at 2119 = some (Cond.code (am_y am_m310) (am_cc am_m310) (am_ml am_m310) (am_rt am_m310)) := rfl
set_option maxRecDepth 20000 in
theorem am_c311 : am_at 2122 = some (Cond.code (am_y am_m311) (am_cc am_m311) (am_ml am_m311) (am_rt am_m311)) := rfl
set_option maxRecDepth 20000 in
theorem am_c312 : am_at 4062 = some (Cond.code (am_y am_m312) (am_cc am_m312) (am_ml am_m312) (am_rt am_m312)) := rfl
set_option maxRecDepth 20000 in
theorem am_c313 : am_at 4065 = some (Cond.code (am_y am_m313) (am_cc am_m313) (am_ml am_m313) (am_rt am_m313)) := rfl
set_option maxRecDepth 20000 in
theorem am_c314 : am_at 4068 = some (Cond.code (am_y am_m314) (am_cc am_m314) (am_ml am_m314) (am_rt am_m314)) := rfl
set_option maxRecDepth 20000 in
theorem am_c315 : am_at 2173 = some (Cond.code (am_y am_m315) (am_cc am_m315) (am_ml am_m315) (am_rt am_m315)) := rfl
set_option maxRecDepth 20000 in
theorem am_c316 : am_at 2177 = some (Cond.code (am_y am_m316) (am_cc am_m316) (am_ml am_m316) (am_rt am_m316)) := rfl
set_option maxRecDepth 20000 in
theorem am_c317 : am_at 2183 = some (Cond.code (am_y am_m317) (am_cc am_m317) (am_ml am_m317) (am_rt am_m317)) := rfl
set_option maxRecDepth 20000 in
theorem am_c318 : am_at 2187 = some (Cond.code (am_y am_m318) (am_cc am_m318) (am_ml am_m318) (am_rt am_m318)) := rfl
set_option maxRecDepth 20000 in
theorem am_c319 : am_at 2190 = some (Cond.code (am_y am_m319) (am_cc am_m319) (am_ml am_m319) (am_rt am_m319)) := rfl
set_option maxRecDepth 20000 in
theorem am_c320 : am_at 2141 = some (Cond.code (am_y am_m320) (am_cc am_m320) (am_ml am_m320) (am_rt am_m320)) := rfl
set_option maxRecDepth 20000 in
theorem am_c321 : am_at 2198 = some (Cond.code (am_y am_m321) (am_cc am_m321) (am_ml am_m321) (am_rt am_m321)) := rfl
set_option maxRecDepth 20000 in
theorem am_c322 : am_at 2193 = some (Cond.code (am_y am_m322) (am_cc am_m322) (am_ml am_m322) (am_rt am_m322)) := rfl
set_option maxRecDepth 20000 in
theorem am_cO : am_at 1029 = some (Cond.code objectInit ⟨#[0xb1]⟩ 1 none) := rfl
