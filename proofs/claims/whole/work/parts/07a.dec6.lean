theorem dL_law_3046 : decode cL_law 3046 = .ok (.iaload, 1) := by decide +kernel
theorem dL_law_3047 : decode cL_law 3047 = .ok (.aload_n 3, 1) := by decide +kernel
theorem dL_law_3048 : decode cL_law 3048 = .ok (.invokestatic 331, 3) := by decide +kernel
theorem dL_law_3051 : decode cL_law 3051 = .ok (.istore 6, 2) := by decide +kernel
theorem dL_law_3053 : decode cL_law 3053 = .ok (.aload_n 2, 1) := by decide +kernel
theorem dL_law_3054 : decode cL_law 3054 = .ok (.aload_n 0, 1) := by decide +kernel
theorem dL_law_3055 : decode cL_law 3055 = .ok (.iload 5, 2) := by decide +kernel
theorem dL_law_3057 : decode cL_law 3057 = .ok (.iconst 1, 1) := by decide +kernel
theorem dL_law_3058 : decode cL_law 3058 = .ok (.iadd, 1) := by decide +kernel
theorem dL_law_3059 : decode cL_law 3059 = .ok (.iaload, 1) := by decide +kernel
theorem dL_law_3060 : decode cL_law 3060 = .ok (.invokevirtual 333, 3) := by decide +kernel
theorem dL_law_3063 : decode cL_law 3063 = .ok (.lstore 7, 2) := by decide +kernel
theorem dL_law_3065 : decode cL_law 3065 = .ok (.aload_n 2, 1) := by decide +kernel
theorem dL_law_3066 : decode cL_law 3066 = .ok (.invokevirtual 175, 3) := by decide +kernel
theorem dL_law_3069 : decode cL_law 3069 = .ok (.iload 6, 2) := by decide +kernel
theorem dL_law_3071 : decode cL_law 3071 = .ok (.if_icmp .eq 5, 3) := by decide +kernel
theorem dL_law_3074 : decode cL_law 3074 = .ok (.iconst 0, 1) := by decide +kernel
theorem dL_law_3075 : decode cL_law 3075 = .ok (.ireturn, 1) := by decide +kernel
theorem dL_law_3076 : decode cL_law 3076 = .ok (.iload 6, 2) := by decide +kernel
theorem dL_law_3078 : decode cL_law 3078 = .ok (.ifCond .ne 14, 3) := by decide +kernel
theorem dL_law_3081 : decode cL_law 3081 = .ok (.aload_n 3, 1) := by decide +kernel
theorem dL_law_3082 : decode cL_law 3082 = .ok (.iconst 0, 1) := by decide +kernel
theorem dL_law_3083 : decode cL_law 3083 = .ok (.laload, 1) := by decide +kernel
theorem dL_law_3084 : decode cL_law 3084 = .ok (.lload 7, 2) := by decide +kernel
theorem dL_law_3086 : decode cL_law 3086 = .ok (.lcmp, 1) := by decide +kernel
theorem dL_law_3087 : decode cL_law 3087 = .ok (.ifCond .eq 5, 3) := by decide +kernel
theorem dL_law_3090 : decode cL_law 3090 = .ok (.iconst 0, 1) := by decide +kernel
theorem dL_law_3091 : decode cL_law 3091 = .ok (.ireturn, 1) := by decide +kernel
theorem dL_law_3092 : decode cL_law 3092 = .ok (.goto 210, 3) := by decide +kernel
theorem dL_law_3095 : decode cL_law 3095 = .ok (.aload_n 1, 1) := by decide +kernel
theorem dL_law_3096 : decode cL_law 3096 = .ok (.aload_n 0, 1) := by decide +kernel
theorem dL_law_3097 : decode cL_law 3097 = .ok (.iload 5, 2) := by decide +kernel
theorem dL_law_3099 : decode cL_law 3099 = .ok (.iconst 1, 1) := by decide +kernel
theorem dL_law_3100 : decode cL_law 3100 = .ok (.iadd, 1) := by decide +kernel
theorem dL_law_3101 : decode cL_law 3101 = .ok (.iaload, 1) := by decide +kernel
theorem dL_law_3102 : decode cL_law 3102 = .ok (.aload_n 3, 1) := by decide +kernel
theorem dL_law_3103 : decode cL_law 3103 = .ok (.invokestatic 334, 3) := by decide +kernel
theorem dL_law_3106 : decode cL_law 3106 = .ok (.istore 6, 2) := by decide +kernel
theorem dL_law_3108 : decode cL_law 3108 = .ok (.aload_n 2, 1) := by decide +kernel
theorem dL_law_3109 : decode cL_law 3109 = .ok (.aload_n 0, 1) := by decide +kernel
theorem dL_law_3110 : decode cL_law 3110 = .ok (.iload 5, 2) := by decide +kernel
theorem dL_law_3112 : decode cL_law 3112 = .ok (.iconst 1, 1) := by decide +kernel
theorem dL_law_3113 : decode cL_law 3113 = .ok (.iadd, 1) := by decide +kernel
theorem dL_law_3114 : decode cL_law 3114 = .ok (.iaload, 1) := by decide +kernel
theorem dL_law_3115 : decode cL_law 3115 = .ok (.invokevirtual 336, 3) := by decide +kernel
theorem dL_law_3118 : decode cL_law 3118 = .ok (.istore 7, 2) := by decide +kernel
theorem dL_law_3120 : decode cL_law 3120 = .ok (.aload_n 2, 1) := by decide +kernel
theorem dL_law_3121 : decode cL_law 3121 = .ok (.invokevirtual 175, 3) := by decide +kernel
theorem dL_law_3124 : decode cL_law 3124 = .ok (.iload 6, 2) := by decide +kernel
theorem dL_law_3126 : decode cL_law 3126 = .ok (.if_icmp .eq 5, 3) := by decide +kernel
theorem dL_law_3129 : decode cL_law 3129 = .ok (.iconst 0, 1) := by decide +kernel
theorem dL_law_3130 : decode cL_law 3130 = .ok (.ireturn, 1) := by decide +kernel
theorem dL_law_3131 : decode cL_law 3131 = .ok (.iload 6, 2) := by decide +kernel
theorem dL_law_3133 : decode cL_law 3133 = .ok (.ifCond .ne 15, 3) := by decide +kernel
theorem dL_law_3136 : decode cL_law 3136 = .ok (.aload_n 3, 1) := by decide +kernel
theorem dL_law_3137 : decode cL_law 3137 = .ok (.iconst 0, 1) := by decide +kernel
theorem dL_law_3138 : decode cL_law 3138 = .ok (.laload, 1) := by decide +kernel
theorem dL_law_3139 : decode cL_law 3139 = .ok (.iload 7, 2) := by decide +kernel
theorem dL_law_3141 : decode cL_law 3141 = .ok (.i2l, 1) := by decide +kernel
theorem dL_law_3142 : decode cL_law 3142 = .ok (.lcmp, 1) := by decide +kernel
theorem dL_law_3143 : decode cL_law 3143 = .ok (.ifCond .eq 5, 3) := by decide +kernel
theorem dL_law_3146 : decode cL_law 3146 = .ok (.iconst 0, 1) := by decide +kernel
theorem dL_law_3147 : decode cL_law 3147 = .ok (.ireturn, 1) := by decide +kernel
theorem dL_law_3148 : decode cL_law 3148 = .ok (.goto 154, 3) := by decide +kernel
theorem dL_law_3151 : decode cL_law 3151 = .ok (.aload_n 1, 1) := by decide +kernel
theorem dL_law_3152 : decode cL_law 3152 = .ok (.aload_n 0, 1) := by decide +kernel
theorem dL_law_3153 : decode cL_law 3153 = .ok (.iload 5, 2) := by decide +kernel
theorem dL_law_3155 : decode cL_law 3155 = .ok (.iconst 1, 1) := by decide +kernel
theorem dL_law_3156 : decode cL_law 3156 = .ok (.iadd, 1) := by decide +kernel
theorem dL_law_3157 : decode cL_law 3157 = .ok (.iaload, 1) := by decide +kernel
theorem dL_law_3158 : decode cL_law 3158 = .ok (.aload_n 3, 1) := by decide +kernel
theorem dL_law_3159 : decode cL_law 3159 = .ok (.invokestatic 337, 3) := by decide +kernel
theorem dL_law_3162 : decode cL_law 3162 = .ok (.istore 6, 2) := by decide +kernel
theorem dL_law_3164 : decode cL_law 3164 = .ok (.aload_n 2, 1) := by decide +kernel
theorem dL_law_3165 : decode cL_law 3165 = .ok (.aload_n 0, 1) := by decide +kernel
theorem dL_law_3166 : decode cL_law 3166 = .ok (.iload 5, 2) := by decide +kernel
theorem dL_law_3168 : decode cL_law 3168 = .ok (.iconst 1, 1) := by decide +kernel
theorem dL_law_3169 : decode cL_law 3169 = .ok (.iadd, 1) := by decide +kernel
theorem dL_law_3170 : decode cL_law 3170 = .ok (.iaload, 1) := by decide +kernel
theorem dL_law_3171 : decode cL_law 3171 = .ok (.invokevirtual 339, 3) := by decide +kernel
theorem dL_law_3174 : decode cL_law 3174 = .ok (.istore 7, 2) := by decide +kernel
theorem dL_law_3176 : decode cL_law 3176 = .ok (.aload_n 2, 1) := by decide +kernel
theorem dL_law_3177 : decode cL_law 3177 = .ok (.invokevirtual 175, 3) := by decide +kernel
theorem dL_law_3180 : decode cL_law 3180 = .ok (.iload 6, 2) := by decide +kernel
theorem dL_law_3182 : decode cL_law 3182 = .ok (.if_icmp .eq 5, 3) := by decide +kernel
theorem dL_law_3185 : decode cL_law 3185 = .ok (.iconst 0, 1) := by decide +kernel
theorem dL_law_3186 : decode cL_law 3186 = .ok (.ireturn, 1) := by decide +kernel
theorem dL_law_3187 : decode cL_law 3187 = .ok (.iload 6, 2) := by decide +kernel
theorem dL_law_3189 : decode cL_law 3189 = .ok (.ifCond .ne 15, 3) := by decide +kernel
theorem dL_law_3192 : decode cL_law 3192 = .ok (.aload_n 3, 1) := by decide +kernel
theorem dL_law_3193 : decode cL_law 3193 = .ok (.iconst 0, 1) := by decide +kernel
theorem dL_law_3194 : decode cL_law 3194 = .ok (.laload, 1) := by decide +kernel
theorem dL_law_3195 : decode cL_law 3195 = .ok (.iload 7, 2) := by decide +kernel
theorem dL_law_3197 : decode cL_law 3197 = .ok (.i2l, 1) := by decide +kernel
theorem dL_law_3198 : decode cL_law 3198 = .ok (.lcmp, 1) := by decide +kernel
theorem dL_law_3199 : decode cL_law 3199 = .ok (.ifCond .eq 5, 3) := by decide +kernel
theorem dL_law_3202 : decode cL_law 3202 = .ok (.iconst 0, 1) := by decide +kernel
theorem dL_law_3203 : decode cL_law 3203 = .ok (.ireturn, 1) := by decide +kernel
theorem dL_law_3204 : decode cL_law 3204 = .ok (.goto 98, 3) := by decide +kernel
theorem dL_law_3207 : decode cL_law 3207 = .ok (.aload_n 1, 1) := by decide +kernel
theorem dL_law_3208 : decode cL_law 3208 = .ok (.aload_n 0, 1) := by decide +kernel
theorem dL_law_3209 : decode cL_law 3209 = .ok (.iload 5, 2) := by decide +kernel
theorem dL_law_3211 : decode cL_law 3211 = .ok (.iconst 1, 1) := by decide +kernel
theorem dL_law_3212 : decode cL_law 3212 = .ok (.iadd, 1) := by decide +kernel
theorem dL_law_3213 : decode cL_law 3213 = .ok (.iaload, 1) := by decide +kernel
theorem dL_law_3214 : decode cL_law 3214 = .ok (.invokevirtual 340, 3) := by decide +kernel
theorem dL_law_3217 : decode cL_law 3217 = .ok (.aload_n 2, 1) := by decide +kernel
theorem dL_law_3218 : decode cL_law 3218 = .ok (.aload_n 0, 1) := by decide +kernel
theorem dL_law_3219 : decode cL_law 3219 = .ok (.iload 5, 2) := by decide +kernel
theorem dL_law_3221 : decode cL_law 3221 = .ok (.iconst 1, 1) := by decide +kernel
theorem dL_law_3222 : decode cL_law 3222 = .ok (.iadd, 1) := by decide +kernel
theorem dL_law_3223 : decode cL_law 3223 = .ok (.iaload, 1) := by decide +kernel
theorem dL_law_3224 : decode cL_law 3224 = .ok (.invokevirtual 343, 3) := by decide +kernel
theorem dL_law_3227 : decode cL_law 3227 = .ok (.if_icmp .eq 75, 3) := by decide +kernel
theorem dL_law_3230 : decode cL_law 3230 = .ok (.iconst 0, 1) := by decide +kernel
theorem dL_law_3231 : decode cL_law 3231 = .ok (.ireturn, 1) := by decide +kernel
theorem dL_law_3232 : decode cL_law 3232 = .ok (.aload_n 1, 1) := by decide +kernel
theorem dL_law_3233 : decode cL_law 3233 = .ok (.invokevirtual 344, 3) := by decide +kernel
theorem dL_law_3236 : decode cL_law 3236 = .ok (.aload_n 2, 1) := by decide +kernel
theorem dL_law_3237 : decode cL_law 3237 = .ok (.invokevirtual 347, 3) := by decide +kernel
theorem dL_law_3240 : decode cL_law 3240 = .ok (.if_icmp .eq 62, 3) := by decide +kernel
theorem dL_law_3243 : decode cL_law 3243 = .ok (.iconst 0, 1) := by decide +kernel
theorem dL_law_3244 : decode cL_law 3244 = .ok (.ireturn, 1) := by decide +kernel
theorem dL_law_3245 : decode cL_law 3245 = .ok (.aload_n 1, 1) := by decide +kernel
theorem dL_law_3246 : decode cL_law 3246 = .ok (.invokevirtual 348, 3) := by decide +kernel
theorem dL_law_3249 : decode cL_law 3249 = .ok (.aload_n 2, 1) := by decide +kernel
theorem dL_law_3250 : decode cL_law 3250 = .ok (.invokevirtual 351, 3) := by decide +kernel
theorem dL_law_3253 : decode cL_law 3253 = .ok (.if_icmp .eq 49, 3) := by decide +kernel
theorem dL_law_3256 : decode cL_law 3256 = .ok (.iconst 0, 1) := by decide +kernel
theorem dL_law_3257 : decode cL_law 3257 = .ok (.ireturn, 1) := by decide +kernel
theorem dL_law_3258 : decode cL_law 3258 = .ok (.aload_n 1, 1) := by decide +kernel
theorem dL_law_3259 : decode cL_law 3259 = .ok (.aload_n 3, 1) := by decide +kernel
theorem dL_law_3260 : decode cL_law 3260 = .ok (.invokestatic 352, 3) := by decide +kernel
theorem dL_law_3263 : decode cL_law 3263 = .ok (.istore 6, 2) := by decide +kernel
theorem dL_law_3265 : decode cL_law 3265 = .ok (.aload_n 2, 1) := by decide +kernel
theorem dL_law_3266 : decode cL_law 3266 = .ok (.invokevirtual 355, 3) := by decide +kernel
theorem dL_law_3269 : decode cL_law 3269 = .ok (.istore 7, 2) := by decide +kernel
theorem dL_law_3271 : decode cL_law 3271 = .ok (.aload_n 2, 1) := by decide +kernel
theorem dL_law_3272 : decode cL_law 3272 = .ok (.invokevirtual 175, 3) := by decide +kernel
theorem dL_law_3275 : decode cL_law 3275 = .ok (.iload 6, 2) := by decide +kernel
theorem dL_law_3277 : decode cL_law 3277 = .ok (.if_icmp .eq 5, 3) := by decide +kernel
theorem dL_law_3280 : decode cL_law 3280 = .ok (.iconst 0, 1) := by decide +kernel
theorem dL_law_3281 : decode cL_law 3281 = .ok (.ireturn, 1) := by decide +kernel
theorem dL_law_3282 : decode cL_law 3282 = .ok (.iload 6, 2) := by decide +kernel
theorem dL_law_3284 : decode cL_law 3284 = .ok (.ifCond .ne 15, 3) := by decide +kernel
theorem dL_law_3287 : decode cL_law 3287 = .ok (.aload_n 3, 1) := by decide +kernel
theorem dL_law_3288 : decode cL_law 3288 = .ok (.iconst 0, 1) := by decide +kernel
theorem dL_law_3289 : decode cL_law 3289 = .ok (.laload, 1) := by decide +kernel
theorem dL_law_3290 : decode cL_law 3290 = .ok (.iload 7, 2) := by decide +kernel
theorem dL_law_3292 : decode cL_law 3292 = .ok (.i2l, 1) := by decide +kernel
theorem dL_law_3293 : decode cL_law 3293 = .ok (.lcmp, 1) := by decide +kernel
theorem dL_law_3294 : decode cL_law 3294 = .ok (.ifCond .eq 5, 3) := by decide +kernel
theorem dL_law_3297 : decode cL_law 3297 = .ok (.iconst 0, 1) := by decide +kernel
theorem dL_law_3298 : decode cL_law 3298 = .ok (.ireturn, 1) := by decide +kernel
theorem dL_law_3299 : decode cL_law 3299 = .ok (.goto 3, 3) := by decide +kernel
theorem dL_law_3302 : decode cL_law 3302 = .ok (.iinc 5 6, 3) := by decide +kernel
theorem dL_law_3305 : decode cL_law 3305 = .ok (.goto (-3277), 3) := by decide +kernel
theorem dL_law_3308 : decode cL_law 3308 = .ok (.iconst 1, 1) := by decide +kernel
theorem dL_law_3309 : decode cL_law 3309 = .ok (.ireturn, 1) := by decide +kernel
