set_option maxRecDepth 100000 in
theorem am_k0 : am_all (am_ck am_m0) am_t0 = true := by decide +kernel
set_option maxRecDepth 100000 in
theorem am_k1 : am_all (am_ck am_m1) am_t1 = true := by decide +kernel
set_option maxRecDepth 100000 in
theorem am_k2 : am_all (am_ck am_m2) am_t2 = true := by decide +kernel
set_option maxRecDepth 100000 in
theorem am_k3 : am_all (am_ck am_m3) am_t3 = true := by decide +kernel
set_option maxRecDepth 100000 in
theorem am_k4 : am_all (am_ck am_m4) am_t4 = true := by decide +kernel
set_option maxRecDepth 100000 in
theorem am_k5 : am_all (am_ck am_m5) am_t5 = true := by decide +kernel
set_option maxRecDepth 100000 in
theorem am_k6 : am_all (am_ck am_m6) am_t6 = true := by decide +kernel
set_option maxRecDepth 100000 in
theorem am_k7 : am_all (am_ck am_m7) am_t7 = true := by decide +kernel
set_option maxRecDepth 100000 in
theorem am_k8 : am_all (am_ck am_m8) am_t8 = true := by decide +kernel
set_option maxRecDepth 100000 in
theorem am_k9 : am_all (am_ck am_m9) am_t9 = true := by decide +kernel
set_option maxRecDepth 100000 in
theorem am_k10 : am_all (am_ck am_m10) am_t10 = true := by decide +kernel
set_option maxRecDepth 100000 in
theorem am_k11 : am_all (am_ck am_m11) am_t11 = true := by decide +kernel
set_option maxRecDepth 100000 in
theorem am_k12 : am_all (am_ck am_m12) am_t12 = true := by decide +kernel
set_option maxRecDepth 100000 in
theorem am_k13 : am_all (am_ck am_m13) am_t13 = true := by decide +kernel
set_option maxRecDepth 100000 in
theorem am_k14 : am_all (am_ck am_m14) am_t14 = true := by decide +kernel
set_option maxRecDepth 100000 in
theorem am_k15 : am_all (am_ck am_m15) am_t15 = true := by decide +kernel
set_option maxRecDepth 100000 in
theorem am_k16 : am_all (am_ck am_m16) am_t16 = true := by decide +kernel
set_option maxRecDepth 100000 in
theorem am_k17 : am_all (am_ck am_m17) am_t17 = true := by decide +kernel
set_option maxRecDepth 100000 in
theorem am_k18 : am_all (am_ck am_m18) am_t18 = true := by decide +kernel
set_option maxRecDepth 100000 in
theorem am_k19 : am_all (am_ck am_m19) am_t19 = true := by decide +kernel
set_option maxRecDepth 100000 in
theorem am_k20 : am_all (am_ck am_m20) am_t20 = true := by decide +kernel
set_option maxRecDepth 100000 in
theorem am_k21 : am_all (am_ck am_m21) am_t21 = true := by decide +kernel
set_option maxRecDepth 100000 in
theorem am_k22 : am_all (am_ck am_m22) am_t22 = true := by decide +kernel
set_option maxRecDepth 100000 in
theorem am_k23 : am_all (am_ck am_m23) am_t23 = true := by decide +kernel
set_option maxRecDepth 100000 in
theorem am_k24 : am_all (am_ck am_m24) am_t24 = true := by decide +kernel
set_option maxRecDepth 100000 in
theorem am_k25 : am_all (am_ck am_m25) am_t25 = true := by decide +kernel
set_option maxRecDepth 100000 in
theorem am_k26 : am_all (am_ck am_m26) am_t26 = true := by decide +kernel
set_option maxRecDepth 100000 in
theorem am_k27 : am_all (am_ck am_m27) am_t27 = true := by decide +kernel
set_option maxRecDepth 100000 in
theorem am_k28 : am_all (am_ck am_m28) am_t28 = true := by decide +kernel
set_option maxRecDepth 100000 in
theorem am_k29 : am_all (am_ck am_m29) am_t29 = true := by decide +kernel
set_option maxRecDepth 100000 in
theorem am_k30 : am_all (am_ck am_m30) am_t30 = true := by decide +kernel
set_option maxRecDepth 100000 in
theorem am_k31 : am_all (am_ck am_m31) am_t31 = true := by decide +kernel
set_option maxRecDepth 100000 in
theorem am_k32 : am_all (am_ck am_m32) am_t32 = true := by decide +kernel
set_option maxRecDepth 100000 in
theorem am_k33 : am_all (am_ck am_m33) am_t33 = true := by decide +kernel
set_option maxRecDepth 100000 in
theorem am_k34 : am_all (am_ck am_m34) am_t34 = true := by decide +kernel
set_option maxRecDepth 100000 in
theorem am_k35 : am_all (am_ck am_m35) am_t35 = true := by decide +kernel
set_option maxRecDepth 100000 in
theorem am_k36 : am_all (am_ck am_m36) am_t36 = true := by decide +kernel
set_option maxRecDepth 100000 in
theorem am_k37 : am_all (am_ck am_m37) am_t37 = true := by decide +kernel
set_option maxRecDepth 100000 in
theorem am_k38 : am_all (am_ck am_m38) am_t38 = true := by decide +kernel
set_option maxRecDepth 100000 in
theorem am_k39 : am_all (am_ck am_m39) am_t39 = true := by decide +kernel
set_option maxRecDepth 100000 in
theorem am_k40 : am_all (am_ck am_m40) am_t40 = true := by decide +kernel
set_option maxRecDepth 100000 in
theorem am_k41 : am_all (am_ck am_m41) am_t41 = true := by decide +kernel
set_option maxRecDepth 100000 in
theorem am_k42 : am_all (am_ck am_m42) am_t42 = true := by decide +kernel
set_option maxRecDepth 100000 in
theorem am_k43 : am_all (am_ck am_m43) am_t43 = true := by decide +kernel
set_option maxRecDepth 100000 in
theorem am_k44 : am_all (am_ck am_m44) am_t44 = true := by decide +kernel
set_option maxRecDepth 100000 in
theorem am_k45 : am_all (am_ck am_m45) am_t45 = true := by decide +kernel
set_option maxRecDepth 100000 in
theorem am_k46 : am_all (am_ck am_m46) am_t46 = true := by decide +kernel
set_option maxRecDepth 100000 in
theorem am_k47 : am_all (am_ck am_m47) am_t47 = true := by decide +kernel
set_option maxRecDepth 100000 in
theorem am_k48 : am_all (am_ck am_m48) am_t48 = true := by decide +kernel
set_option maxRecDepth 100000 in
theorem am_k49 : am_all (am_ck am_m49) am_t49 = true := by decide +kernel
set_option maxRecDepth 100000 in
theorem am_k50 : am_all (am_ck am_m50) am_t50 = true := by decide +kernel
set_option maxRecDepth 100000 in
theorem am_k51 : am_all (am_ck am_m51) am_t51 = true := by decide +kernel
set_option maxRecDepth 100000 in
theorem am_k52 : am_all (am_ck am_m52) am_t52 = true := by decide +kernel
set_option maxRecDepth 100000 in
theorem am_k53 : am_all (am_ck am_m53) am_t53 = true := by decide +kernel
set_option maxRecDepth 100000 in
theorem am_k54 : am_all (am_ck am_m54) am_t54 = true := by decide +kernel
set_option maxRecDepth 100000 in
theorem am_k55 : am_all (am_ck am_m55) am_t55 = true := by decide +kernel
set_option maxRecDepth 100000 in
theorem am_k56 : am_all (am_ck am_m56) am_t56 = true := by decide +kernel
set_option maxRecDepth 100000 in
theorem am_k57 : am_all (am_ck am_m57) am_t57 = true := by decide +kernel
set_option maxRecDepth 100000 in
theorem am_k58 : am_all (am_ck am_m58) am_t58 = true := by decide +kernel
set_option maxRecDepth 100000 in
theorem am_k59 : am_all (am_ck am_m59) am_t59 = true := by decide +kernel
