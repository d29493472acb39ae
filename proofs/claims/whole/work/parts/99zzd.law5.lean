section
/-! StreamTransportLaw.law([I)Z -/
def y_Law_b : MethodName := ⟨"StreamTransportLaw", "law", "([I)Z"⟩
def t_Law_b (pc : Nat) : Option Ent :=
  bif Nat.blt pc 508 then
    (bif Nat.blt pc 315 then
      (bif Nat.blt pc 217 then
        (bif Nat.blt pc 173 then
          (bif Nat.blt pc 153 then
            (bif Nat.blt pc 56 then
              (bif Nat.blt pc 49 then
                (bif Nat.blt pc 46 then
                  (bif Nat.blt pc 45 then
                    (bif Nat.beq pc 43 then some (.iload 4, 4, 0, 0, 0) else none)
                  else
                    bif Nat.beq pc 45 then some (.aload_n 0, 0, 0, 0, 0) else none)
                else
                  bif Nat.blt pc 47 then
                    (bif Nat.beq pc 46 then some (.arraylength, 0, 0, 0, 0) else none)
                  else
                    bif Nat.beq pc 47 then some (.bipush 6, 0, 0, 0, 6) else none)
              else
                bif Nat.blt pc 53 then
                  (bif Nat.blt pc 50 then
                    (bif Nat.beq pc 49 then some (.isub, 0, 0, 0, 0) else none)
                  else
                    bif Nat.beq pc 50 then some (.if_icmp .gt (836), 886, 0, 0, 0) else none)
                else
                  bif Nat.blt pc 54 then
                    (bif Nat.beq pc 53 then some (.aload_n 0, 0, 0, 0, 0) else none)
                  else
                    bif Nat.beq pc 54 then some (.iload 4, 4, 0, 0, 0) else none)
            else
              bif Nat.blt pc 148 then
                (bif Nat.blt pc 59 then
                  (bif Nat.blt pc 57 then
                    (bif Nat.beq pc 56 then some (.iaload, 0, 0, 0, 0) else none)
                  else
                    bif Nat.beq pc 57 then some (.bipush 31, 0, 0, 0, 31) else none)
                else
                  bif Nat.blt pc 60 then
                    (bif Nat.beq pc 59 then some (.iand, 0, 0, 0, 0) else none)
                  else
                    bif Nat.beq pc 60 then some (.tableswitch (820) (0) (17) #[(88), (212), (249), (286), (354), (391), (416), (441), (466), (491), (540), (609), (646), (659), (672), (709), (734), (771)], 0, 0, 0, 0) else none)
              else
                bif Nat.blt pc 150 then
                  (bif Nat.blt pc 149 then
                    (bif Nat.beq pc 148 then some (.aload_n 1, 1, 0, 0, 0) else none)
                  else
                    bif Nat.beq pc 149 then some (.aload_n 0, 0, 0, 0, 0) else none)
                else
                  bif Nat.blt pc 152 then
                    (bif Nat.beq pc 150 then some (.iload 4, 4, 0, 0, 0) else none)
                  else
                    bif Nat.beq pc 152 then some (.iconst 1, 0, 0, 0, 1) else none)
          else
            bif Nat.blt pc 162 then
              (bif Nat.blt pc 158 then
                (bif Nat.blt pc 155 then
                  (bif Nat.blt pc 154 then
                    (bif Nat.beq pc 153 then some (.iadd, 0, 0, 0, 0) else none)
                  else
                    bif Nat.beq pc 154 then some (.iaload, 0, 0, 0, 0) else none)
                else
                  bif Nat.blt pc 156 then
                    (bif Nat.beq pc 155 then some (.aload_n 0, 0, 0, 0, 0) else none)
                  else
                    bif Nat.beq pc 156 then some (.iload 4, 4, 0, 0, 0) else none)
              else
                bif Nat.blt pc 160 then
                  (bif Nat.blt pc 159 then
                    (bif Nat.beq pc 158 then some (.iconst 2, 0, 0, 0, 2) else none)
                  else
                    bif Nat.beq pc 159 then some (.iadd, 0, 0, 0, 0) else none)
                else
                  bif Nat.blt pc 161 then
                    (bif Nat.beq pc 160 then some (.iaload, 0, 0, 0, 0) else none)
                  else
                    bif Nat.beq pc 161 then some (.aload_n 0, 0, 0, 0, 0) else none)
            else
              bif Nat.blt pc 167 then
                (bif Nat.blt pc 165 then
                  (bif Nat.blt pc 164 then
                    (bif Nat.beq pc 162 then some (.iload 4, 4, 0, 0, 0) else none)
                  else
                    bif Nat.beq pc 164 then some (.iconst 3, 0, 0, 0, 3) else none)
                else
                  bif Nat.blt pc 166 then
                    (bif Nat.beq pc 165 then some (.iadd, 0, 0, 0, 0) else none)
                  else
                    bif Nat.beq pc 166 then some (.iaload, 0, 0, 0, 0) else none)
              else
                bif Nat.blt pc 170 then
                  (bif Nat.blt pc 168 then
                    (bif Nat.beq pc 167 then some (.aload_n 0, 0, 0, 0, 0) else none)
                  else
                    bif Nat.beq pc 168 then some (.iload 4, 4, 0, 0, 0) else none)
                else
                  bif Nat.blt pc 171 then
                    (bif Nat.beq pc 170 then some (.iconst 4, 0, 0, 0, 4) else none)
                  else
                    bif Nat.blt pc 172 then
                      (bif Nat.beq pc 171 then some (.iadd, 0, 0, 0, 0) else none)
                    else
                      bif Nat.beq pc 172 then some (.iaload, 0, 0, 0, 0) else none)
        else
          bif Nat.blt pc 196 then
            (bif Nat.blt pc 183 then
              (bif Nat.blt pc 178 then
                (bif Nat.blt pc 176 then
                  (bif Nat.blt pc 174 then
                    (bif Nat.beq pc 173 then some (.i2l, 0, 0, 0, 0) else none)
                  else
                    bif Nat.beq pc 174 then some (.bipush 32, 0, 0, 0, 32) else none)
                else
                  bif Nat.blt pc 177 then
                    (bif Nat.beq pc 176 then some (.lshl, 0, 0, 0, 0) else none)
                  else
                    bif Nat.beq pc 177 then some (.aload_n 0, 0, 0, 0, 0) else none)
              else
                bif Nat.blt pc 181 then
                  (bif Nat.blt pc 180 then
                    (bif Nat.beq pc 178 then some (.iload 4, 4, 0, 0, 0) else none)
                  else
                    bif Nat.beq pc 180 then some (.iconst 5, 0, 0, 0, 5) else none)
                else
                  bif Nat.blt pc 182 then
                    (bif Nat.beq pc 181 then some (.iadd, 0, 0, 0, 0) else none)
                  else
                    bif Nat.beq pc 182 then some (.iaload, 0, 0, 0, 0) else none)
            else
              bif Nat.blt pc 189 then
                (bif Nat.blt pc 187 then
                  (bif Nat.blt pc 184 then
                    (bif Nat.beq pc 183 then some (.i2l, 0, 0, 0, 0) else none)
                  else
                    bif Nat.beq pc 184 then some (.ldc2_w 37, 4294967295, 0, 0, 0) else none)
                else
                  bif Nat.blt pc 188 then
                    (bif Nat.beq pc 187 then some (.land, 0, 0, 0, 0) else none)
                  else
                    bif Nat.beq pc 188 then some (.lor, 0, 0, 0, 0) else none)
              else
                bif Nat.blt pc 193 then
                  (bif Nat.blt pc 190 then
                    (bif Nat.beq pc 189 then some (.aload_n 3, 3, 0, 0, 0) else none)
                  else
                    bif Nat.beq pc 190 then some (.invokestatic 39, 173, 6, 1, 0) else none)
                else
                  bif Nat.blt pc 195 then
                    (bif Nat.beq pc 193 then some (.istore 5, 5, 0, 0, 0) else none)
                  else
                    bif Nat.beq pc 195 then some (.aload_n 2, 2, 0, 0, 0) else none)
          else
            bif Nat.blt pc 206 then
              (bif Nat.blt pc 201 then
                (bif Nat.blt pc 199 then
                  (bif Nat.blt pc 197 then
                    (bif Nat.beq pc 196 then some (.aload_n 0, 0, 0, 0, 0) else none)
                  else
                    bif Nat.beq pc 197 then some (.iload 4, 4, 0, 0, 0) else none)
                else
                  bif Nat.blt pc 200 then
                    (bif Nat.beq pc 199 then some (.iconst 1, 0, 0, 0, 1) else none)
                  else
                    bif Nat.beq pc 200 then some (.iadd, 0, 0, 0, 0) else none)
              else
                bif Nat.blt pc 203 then
                  (bif Nat.blt pc 202 then
                    (bif Nat.beq pc 201 then some (.iaload, 0, 0, 0, 0) else none)
                  else
                    bif Nat.beq pc 202 then some (.aload_n 0, 0, 0, 0, 0) else none)
                else
                  bif Nat.blt pc 205 then
                    (bif Nat.beq pc 203 then some (.iload 4, 4, 0, 0, 0) else none)
                  else
                    bif Nat.beq pc 205 then some (.iconst 2, 0, 0, 0, 2) else none)
            else
              bif Nat.blt pc 211 then
                (bif Nat.blt pc 208 then
                  (bif Nat.blt pc 207 then
                    (bif Nat.beq pc 206 then some (.iadd, 0, 0, 0, 0) else none)
                  else
                    bif Nat.beq pc 207 then some (.iaload, 0, 0, 0, 0) else none)
                else
                  bif Nat.blt pc 209 then
                    (bif Nat.beq pc 208 then some (.aload_n 0, 0, 0, 0, 0) else none)
                  else
                    bif Nat.beq pc 209 then some (.iload 4, 4, 0, 0, 0) else none)
              else
                bif Nat.blt pc 213 then
                  (bif Nat.blt pc 212 then
                    (bif Nat.beq pc 211 then some (.iconst 3, 0, 0, 0, 3) else none)
                  else
                    bif Nat.beq pc 212 then some (.iadd, 0, 0, 0, 0) else none)
                else
                  bif Nat.blt pc 214 then
                    (bif Nat.beq pc 213 then some (.iaload, 0, 0, 0, 0) else none)
                  else
                    bif Nat.blt pc 215 then
                      (bif Nat.beq pc 214 then some (.aload_n 0, 0, 0, 0, 0) else none)
                    else
                      bif Nat.beq pc 215 then some (.iload 4, 4, 0, 0, 0) else none)
      else
        bif Nat.blt pc 268 then
          (bif Nat.blt pc 239 then
            (bif Nat.blt pc 227 then
              (bif Nat.blt pc 221 then
                (bif Nat.blt pc 219 then
                  (bif Nat.blt pc 218 then
                    (bif Nat.beq pc 217 then some (.iconst 4, 0, 0, 0, 4) else none)
                  else
                    bif Nat.beq pc 218 then some (.iadd, 0, 0, 0, 0) else none)
                else
                  bif Nat.blt pc 220 then
                    (bif Nat.beq pc 219 then some (.iaload, 0, 0, 0, 0) else none)
                  else
                    bif Nat.beq pc 220 then some (.i2l, 0, 0, 0, 0) else none)
              else
                bif Nat.blt pc 224 then
                  (bif Nat.blt pc 223 then
                    (bif Nat.beq pc 221 then some (.bipush 32, 0, 0, 0, 32) else none)
                  else
                    bif Nat.beq pc 223 then some (.lshl, 0, 0, 0, 0) else none)
                else
                  bif Nat.blt pc 225 then
                    (bif Nat.beq pc 224 then some (.aload_n 0, 0, 0, 0, 0) else none)
                  else
                    bif Nat.beq pc 225 then some (.iload 4, 4, 0, 0, 0) else none)
            else
              bif Nat.blt pc 231 then
                (bif Nat.blt pc 229 then
                  (bif Nat.blt pc 228 then
                    (bif Nat.beq pc 227 then some (.iconst 5, 0, 0, 0, 5) else none)
                  else
                    bif Nat.beq pc 228 then some (.iadd, 0, 0, 0, 0) else none)
                else
                  bif Nat.blt pc 230 then
                    (bif Nat.beq pc 229 then some (.iaload, 0, 0, 0, 0) else none)
                  else
                    bif Nat.beq pc 230 then some (.i2l, 0, 0, 0, 0) else none)
              else
                bif Nat.blt pc 235 then
                  (bif Nat.blt pc 234 then
                    (bif Nat.beq pc 231 then some (.ldc2_w 37, 4294967295, 0, 0, 0) else none)
                  else
                    bif Nat.beq pc 234 then some (.land, 0, 0, 0, 0) else none)
                else
                  bif Nat.blt pc 236 then
                    (bif Nat.beq pc 235 then some (.lor, 0, 0, 0, 0) else none)
                  else
                    bif Nat.beq pc 236 then some (.invokevirtual 42, 114, 5, 1, 0) else none)
          else
            bif Nat.blt pc 254 then
              (bif Nat.blt pc 247 then
                (bif Nat.blt pc 242 then
                  (bif Nat.blt pc 241 then
                    (bif Nat.beq pc 239 then some (.istore 6, 6, 0, 0, 0) else none)
                  else
                    bif Nat.beq pc 241 then some (.aload_n 2, 2, 0, 0, 0) else none)
                else
                  bif Nat.blt pc 245 then
                    (bif Nat.beq pc 242 then some (.invokevirtual 43, 102, 1, 1, 0) else none)
                  else
                    bif Nat.beq pc 245 then some (.iload 5, 5, 0, 0, 0) else none)
              else
                bif Nat.blt pc 251 then
                  (bif Nat.blt pc 250 then
                    (bif Nat.beq pc 247 then some (.if_icmp .eq (5), 252, 0, 0, 0) else none)
                  else
                    bif Nat.beq pc 250 then some (.iconst 0, 0, 0, 0, 0) else none)
                else
                  bif Nat.blt pc 252 then
                    (bif Nat.beq pc 251 then some (.ireturn, 0, 0, 1, 0) else none)
                  else
                    bif Nat.beq pc 252 then some (.iload 5, 5, 0, 0, 0) else none)
            else
              bif Nat.blt pc 260 then
                (bif Nat.blt pc 258 then
                  (bif Nat.blt pc 257 then
                    (bif Nat.beq pc 254 then some (.ifCond .ne (15), 269, 0, 0, 0) else none)
                  else
                    bif Nat.beq pc 257 then some (.aload_n 3, 3, 0, 0, 0) else none)
                else
                  bif Nat.blt pc 259 then
                    (bif Nat.beq pc 258 then some (.iconst 0, 0, 0, 0, 0) else none)
                  else
                    bif Nat.beq pc 259 then some (.laload, 0, 0, 0, 0) else none)
              else
                bif Nat.blt pc 263 then
                  (bif Nat.blt pc 262 then
                    (bif Nat.beq pc 260 then some (.iload 6, 6, 0, 0, 0) else none)
                  else
                    bif Nat.beq pc 262 then some (.i2l, 0, 0, 0, 0) else none)
                else
                  bif Nat.blt pc 264 then
                    (bif Nat.beq pc 263 then some (.lcmp, 0, 0, 0, 0) else none)
                  else
                    bif Nat.blt pc 267 then
                      (bif Nat.beq pc 264 then some (.ifCond .eq (5), 269, 0, 0, 0) else none)
                    else
                      bif Nat.beq pc 267 then some (.iconst 0, 0, 0, 0, 0) else none)
        else
          bif Nat.blt pc 292 then
            (bif Nat.blt pc 279 then
              (bif Nat.blt pc 274 then
                (bif Nat.blt pc 272 then
                  (bif Nat.blt pc 269 then
                    (bif Nat.beq pc 268 then some (.ireturn, 0, 0, 1, 0) else none)
                  else
                    bif Nat.beq pc 269 then some (.goto 611, 880, 0, 0, 0) else none)
                else
                  bif Nat.blt pc 273 then
                    (bif Nat.beq pc 272 then some (.aload_n 1, 1, 0, 0, 0) else none)
                  else
                    bif Nat.beq pc 273 then some (.aload_n 0, 0, 0, 0, 0) else none)
              else
                bif Nat.blt pc 277 then
                  (bif Nat.blt pc 276 then
                    (bif Nat.beq pc 274 then some (.iload 4, 4, 0, 0, 0) else none)
                  else
                    bif Nat.beq pc 276 then some (.iconst 1, 0, 0, 0, 1) else none)
                else
                  bif Nat.blt pc 278 then
                    (bif Nat.beq pc 277 then some (.iadd, 0, 0, 0, 0) else none)
                  else
                    bif Nat.beq pc 278 then some (.iaload, 0, 0, 0, 0) else none)
            else
              bif Nat.blt pc 284 then
                (bif Nat.blt pc 282 then
                  (bif Nat.blt pc 280 then
                    (bif Nat.beq pc 279 then some (.aload_n 0, 0, 0, 0, 0) else none)
                  else
                    bif Nat.beq pc 280 then some (.iload 4, 4, 0, 0, 0) else none)
                else
                  bif Nat.blt pc 283 then
                    (bif Nat.beq pc 282 then some (.iconst 2, 0, 0, 0, 2) else none)
                  else
                    bif Nat.beq pc 283 then some (.iadd, 0, 0, 0, 0) else none)
              else
                bif Nat.blt pc 288 then
                  (bif Nat.blt pc 285 then
                    (bif Nat.beq pc 284 then some (.iaload, 0, 0, 0, 0) else none)
                  else
                    bif Nat.beq pc 285 then some (.invokevirtual 47, 88, 3, 1, 0) else none)
                else
                  bif Nat.blt pc 289 then
                    (bif Nat.beq pc 288 then some (.aload_n 2, 2, 0, 0, 0) else none)
                  else
                    bif Nat.blt pc 290 then
                      (bif Nat.beq pc 289 then some (.aload_n 0, 0, 0, 0, 0) else none)
                    else
                      bif Nat.beq pc 290 then some (.iload 4, 4, 0, 0, 0) else none)
          else
            bif Nat.blt pc 301 then
              (bif Nat.blt pc 296 then
                (bif Nat.blt pc 294 then
                  (bif Nat.blt pc 293 then
                    (bif Nat.beq pc 292 then some (.iconst 1, 0, 0, 0, 1) else none)
                  else
                    bif Nat.beq pc 293 then some (.iadd, 0, 0, 0, 0) else none)
                else
                  bif Nat.blt pc 295 then
                    (bif Nat.beq pc 294 then some (.iaload, 0, 0, 0, 0) else none)
                  else
                    bif Nat.beq pc 295 then some (.aload_n 0, 0, 0, 0, 0) else none)
              else
                bif Nat.blt pc 299 then
                  (bif Nat.blt pc 298 then
                    (bif Nat.beq pc 296 then some (.iload 4, 4, 0, 0, 0) else none)
                  else
                    bif Nat.beq pc 298 then some (.iconst 2, 0, 0, 0, 2) else none)
                else
                  bif Nat.blt pc 300 then
                    (bif Nat.beq pc 299 then some (.iadd, 0, 0, 0, 0) else none)
                  else
                    bif Nat.beq pc 300 then some (.iaload, 0, 0, 0, 0) else none)
            else
              bif Nat.blt pc 309 then
                (bif Nat.blt pc 307 then
                  (bif Nat.blt pc 304 then
                    (bif Nat.beq pc 301 then some (.invokevirtual 51, 115, 3, 1, 0) else none)
                  else
                    bif Nat.beq pc 304 then some (.if_icmp .eq (576), 880, 0, 0, 0) else none)
                else
                  bif Nat.blt pc 308 then
                    (bif Nat.beq pc 307 then some (.iconst 0, 0, 0, 0, 0) else none)
                  else
                    bif Nat.beq pc 308 then some (.ireturn, 0, 0, 1, 0) else none)
              else
                bif Nat.blt pc 311 then
                  (bif Nat.blt pc 310 then
                    (bif Nat.beq pc 309 then some (.aload_n 1, 1, 0, 0, 0) else none)
                  else
                    bif Nat.beq pc 310 then some (.aload_n 0, 0, 0, 0, 0) else none)
                else
                  bif Nat.blt pc 313 then
                    (bif Nat.beq pc 311 then some (.iload 4, 4, 0, 0, 0) else none)
                  else
                    bif Nat.blt pc 314 then
                      (bif Nat.beq pc 313 then some (.iconst 1, 0, 0, 0, 1) else none)
                    else
                      bif Nat.beq pc 314 then some (.iadd, 0, 0, 0, 0) else none)
    else
      bif Nat.blt pc 414 then
        (bif Nat.blt pc 359 then
          (bif Nat.blt pc 336 then
            (bif Nat.blt pc 326 then
              (bif Nat.blt pc 320 then
                (bif Nat.blt pc 317 then
                  (bif Nat.blt pc 316 then
                    (bif Nat.beq pc 315 then some (.iaload, 0, 0, 0, 0) else none)
                  else
                    bif Nat.beq pc 316 then some (.aload_n 0, 0, 0, 0, 0) else none)
                else
                  bif Nat.blt pc 319 then
                    (bif Nat.beq pc 317 then some (.iload 4, 4, 0, 0, 0) else none)
                  else
                    bif Nat.beq pc 319 then some (.iconst 2, 0, 0, 0, 2) else none)
              else
                bif Nat.blt pc 322 then
                  (bif Nat.blt pc 321 then
                    (bif Nat.beq pc 320 then some (.iadd, 0, 0, 0, 0) else none)
                  else
                    bif Nat.beq pc 321 then some (.iaload, 0, 0, 0, 0) else none)
                else
                  bif Nat.blt pc 325 then
                    (bif Nat.beq pc 322 then some (.invokevirtual 52, 89, 3, 1, 0) else none)
                  else
                    bif Nat.beq pc 325 then some (.aload_n 2, 2, 0, 0, 0) else none)
            else
              bif Nat.blt pc 331 then
                (bif Nat.blt pc 329 then
                  (bif Nat.blt pc 327 then
                    (bif Nat.beq pc 326 then some (.aload_n 0, 0, 0, 0, 0) else none)
                  else
                    bif Nat.beq pc 327 then some (.iload 4, 4, 0, 0, 0) else none)
                else
                  bif Nat.blt pc 330 then
                    (bif Nat.beq pc 329 then some (.iconst 1, 0, 0, 0, 1) else none)
                  else
                    bif Nat.beq pc 330 then some (.iadd, 0, 0, 0, 0) else none)
              else
                bif Nat.blt pc 333 then
                  (bif Nat.blt pc 332 then
                    (bif Nat.beq pc 331 then some (.iaload, 0, 0, 0, 0) else none)
                  else
                    bif Nat.beq pc 332 then some (.aload_n 0, 0, 0, 0, 0) else none)
                else
                  bif Nat.blt pc 335 then
                    (bif Nat.beq pc 333 then some (.iload 4, 4, 0, 0, 0) else none)
                  else
                    bif Nat.beq pc 335 then some (.iconst 2, 0, 0, 0, 2) else none)
          else
            bif Nat.blt pc 348 then
              (bif Nat.blt pc 344 then
                (bif Nat.blt pc 338 then
                  (bif Nat.blt pc 337 then
                    (bif Nat.beq pc 336 then some (.iadd, 0, 0, 0, 0) else none)
                  else
                    bif Nat.beq pc 337 then some (.iaload, 0, 0, 0, 0) else none)
                else
                  bif Nat.blt pc 341 then
                    (bif Nat.beq pc 338 then some (.invokevirtual 55, 116, 3, 1, 0) else none)
                  else
                    bif Nat.beq pc 341 then some (.if_icmp .eq (539), 880, 0, 0, 0) else none)
              else
                bif Nat.blt pc 346 then
                  (bif Nat.blt pc 345 then
                    (bif Nat.beq pc 344 then some (.iconst 0, 0, 0, 0, 0) else none)
                  else
                    bif Nat.beq pc 345 then some (.ireturn, 0, 0, 1, 0) else none)
                else
                  bif Nat.blt pc 347 then
                    (bif Nat.beq pc 346 then some (.aload_n 1, 1, 0, 0, 0) else none)
                  else
                    bif Nat.beq pc 347 then some (.aload_n 0, 0, 0, 0, 0) else none)
            else
              bif Nat.blt pc 353 then
                (bif Nat.blt pc 351 then
                  (bif Nat.blt pc 350 then
                    (bif Nat.beq pc 348 then some (.iload 4, 4, 0, 0, 0) else none)
                  else
                    bif Nat.beq pc 350 then some (.iconst 1, 0, 0, 0, 1) else none)
                else
                  bif Nat.blt pc 352 then
                    (bif Nat.beq pc 351 then some (.iadd, 0, 0, 0, 0) else none)
                  else
                    bif Nat.beq pc 352 then some (.iaload, 0, 0, 0, 0) else none)
              else
                bif Nat.blt pc 356 then
                  (bif Nat.blt pc 354 then
                    (bif Nat.beq pc 353 then some (.aload_n 0, 0, 0, 0, 0) else none)
                  else
                    bif Nat.beq pc 354 then some (.iload 4, 4, 0, 0, 0) else none)
                else
                  bif Nat.blt pc 357 then
                    (bif Nat.beq pc 356 then some (.iconst 2, 0, 0, 0, 2) else none)
                  else
                    bif Nat.blt pc 358 then
                      (bif Nat.beq pc 357 then some (.iadd, 0, 0, 0, 0) else none)
                    else
                      bif Nat.beq pc 358 then some (.iaload, 0, 0, 0, 0) else none)
        else
          bif Nat.blt pc 384 then
            (bif Nat.blt pc 371 then
              (bif Nat.blt pc 366 then
                (bif Nat.blt pc 363 then
                  (bif Nat.blt pc 360 then
                    (bif Nat.beq pc 359 then some (.aload_n 3, 3, 0, 0, 0) else none)
                  else
                    bif Nat.beq pc 360 then some (.invokestatic 56, 174, 4, 1, 0) else none)
                else
                  bif Nat.blt pc 365 then
                    (bif Nat.beq pc 363 then some (.istore 5, 5, 0, 0, 0) else none)
                  else
                    bif Nat.beq pc 365 then some (.aload_n 2, 2, 0, 0, 0) else none)
              else
                bif Nat.blt pc 369 then
                  (bif Nat.blt pc 367 then
                    (bif Nat.beq pc 366 then some (.aload_n 0, 0, 0, 0, 0) else none)
                  else
                    bif Nat.beq pc 367 then some (.iload 4, 4, 0, 0, 0) else none)
                else
                  bif Nat.blt pc 370 then
                    (bif Nat.beq pc 369 then some (.iconst 1, 0, 0, 0, 1) else none)
                  else
                    bif Nat.beq pc 370 then some (.iadd, 0, 0, 0, 0) else none)
            else
              bif Nat.blt pc 376 then
                (bif Nat.blt pc 373 then
                  (bif Nat.blt pc 372 then
                    (bif Nat.beq pc 371 then some (.iaload, 0, 0, 0, 0) else none)
                  else
                    bif Nat.beq pc 372 then some (.aload_n 0, 0, 0, 0, 0) else none)
                else
                  bif Nat.blt pc 375 then
                    (bif Nat.beq pc 373 then some (.iload 4, 4, 0, 0, 0) else none)
                  else
                    bif Nat.beq pc 375 then some (.iconst 2, 0, 0, 0, 2) else none)
              else
                bif Nat.blt pc 378 then
                  (bif Nat.blt pc 377 then
                    (bif Nat.beq pc 376 then some (.iadd, 0, 0, 0, 0) else none)
                  else
                    bif Nat.beq pc 377 then some (.iaload, 0, 0, 0, 0) else none)
                else
                  bif Nat.blt pc 381 then
                    (bif Nat.beq pc 378 then some (.invokevirtual 59, 117, 3, 1, 0) else none)
                  else
                    bif Nat.blt pc 383 then
                      (bif Nat.beq pc 381 then some (.istore 6, 6, 0, 0, 0) else none)
                    else
                      bif Nat.beq pc 383 then some (.aload_n 2, 2, 0, 0, 0) else none)
          else
            bif Nat.blt pc 400 then
              (bif Nat.blt pc 393 then
                (bif Nat.blt pc 389 then
                  (bif Nat.blt pc 387 then
                    (bif Nat.beq pc 384 then some (.invokevirtual 43, 102, 1, 1, 0) else none)
                  else
                    bif Nat.beq pc 387 then some (.iload 5, 5, 0, 0, 0) else none)
                else
                  bif Nat.blt pc 392 then
                    (bif Nat.beq pc 389 then some (.if_icmp .eq (5), 394, 0, 0, 0) else none)
                  else
                    bif Nat.beq pc 392 then some (.iconst 0, 0, 0, 0, 0) else none)
              else
                bif Nat.blt pc 396 then
                  (bif Nat.blt pc 394 then
                    (bif Nat.beq pc 393 then some (.ireturn, 0, 0, 1, 0) else none)
                  else
                    bif Nat.beq pc 394 then some (.iload 5, 5, 0, 0, 0) else none)
                else
                  bif Nat.blt pc 399 then
                    (bif Nat.beq pc 396 then some (.ifCond .ne (15), 411, 0, 0, 0) else none)
                  else
                    bif Nat.beq pc 399 then some (.aload_n 3, 3, 0, 0, 0) else none)
            else
              bif Nat.blt pc 405 then
                (bif Nat.blt pc 402 then
                  (bif Nat.blt pc 401 then
                    (bif Nat.beq pc 400 then some (.iconst 0, 0, 0, 0, 0) else none)
                  else
                    bif Nat.beq pc 401 then some (.laload, 0, 0, 0, 0) else none)
                else
                  bif Nat.blt pc 404 then
                    (bif Nat.beq pc 402 then some (.iload 6, 6, 0, 0, 0) else none)
                  else
                    bif Nat.beq pc 404 then some (.i2l, 0, 0, 0, 0) else none)
              else
                bif Nat.blt pc 409 then
                  (bif Nat.blt pc 406 then
                    (bif Nat.beq pc 405 then some (.lcmp, 0, 0, 0, 0) else none)
                  else
                    bif Nat.beq pc 406 then some (.ifCond .eq (5), 411, 0, 0, 0) else none)
                else
                  bif Nat.blt pc 410 then
                    (bif Nat.beq pc 409 then some (.iconst 0, 0, 0, 0, 0) else none)
                  else
                    bif Nat.blt pc 411 then
                      (bif Nat.beq pc 410 then some (.ireturn, 0, 0, 1, 0) else none)
                    else
                      bif Nat.beq pc 411 then some (.goto 469, 880, 0, 0, 0) else none)
      else
        bif Nat.blt pc 458 then
          (bif Nat.blt pc 435 then
            (bif Nat.blt pc 424 then
              (bif Nat.blt pc 419 then
                (bif Nat.blt pc 416 then
                  (bif Nat.blt pc 415 then
                    (bif Nat.beq pc 414 then some (.aload_n 1, 1, 0, 0, 0) else none)
                  else
                    bif Nat.beq pc 415 then some (.aload_n 0, 0, 0, 0, 0) else none)
                else
                  bif Nat.blt pc 418 then
                    (bif Nat.beq pc 416 then some (.iload 4, 4, 0, 0, 0) else none)
                  else
                    bif Nat.beq pc 418 then some (.iconst 1, 0, 0, 0, 1) else none)
              else
                bif Nat.blt pc 421 then
                  (bif Nat.blt pc 420 then
                    (bif Nat.beq pc 419 then some (.iadd, 0, 0, 0, 0) else none)
                  else
                    bif Nat.beq pc 420 then some (.iaload, 0, 0, 0, 0) else none)
                else
                  bif Nat.blt pc 422 then
                    (bif Nat.beq pc 421 then some (.aload_n 0, 0, 0, 0, 0) else none)
                  else
                    bif Nat.beq pc 422 then some (.iload 4, 4, 0, 0, 0) else none)
            else
              bif Nat.blt pc 430 then
                (bif Nat.blt pc 426 then
                  (bif Nat.blt pc 425 then
                    (bif Nat.beq pc 424 then some (.iconst 2, 0, 0, 0, 2) else none)
                  else
                    bif Nat.beq pc 425 then some (.iadd, 0, 0, 0, 0) else none)
                else
                  bif Nat.blt pc 427 then
                    (bif Nat.beq pc 426 then some (.iaload, 0, 0, 0, 0) else none)
                  else
                    bif Nat.beq pc 427 then some (.invokevirtual 60, 90, 3, 1, 0) else none)
              else
                bif Nat.blt pc 432 then
                  (bif Nat.blt pc 431 then
                    (bif Nat.beq pc 430 then some (.aload_n 2, 2, 0, 0, 0) else none)
                  else
                    bif Nat.beq pc 431 then some (.aload_n 0, 0, 0, 0, 0) else none)
                else
                  bif Nat.blt pc 434 then
                    (bif Nat.beq pc 432 then some (.iload 4, 4, 0, 0, 0) else none)
                  else
                    bif Nat.beq pc 434 then some (.iconst 1, 0, 0, 0, 1) else none)
          else
            bif Nat.blt pc 446 then
              (bif Nat.blt pc 440 then
                (bif Nat.blt pc 437 then
                  (bif Nat.blt pc 436 then
                    (bif Nat.beq pc 435 then some (.iadd, 0, 0, 0, 0) else none)
                  else
                    bif Nat.beq pc 436 then some (.iaload, 0, 0, 0, 0) else none)
                else
                  bif Nat.blt pc 438 then
                    (bif Nat.beq pc 437 then some (.aload_n 0, 0, 0, 0, 0) else none)
                  else
                    bif Nat.beq pc 438 then some (.iload 4, 4, 0, 0, 0) else none)
              else
                bif Nat.blt pc 442 then
                  (bif Nat.blt pc 441 then
                    (bif Nat.beq pc 440 then some (.iconst 2, 0, 0, 0, 2) else none)
                  else
                    bif Nat.beq pc 441 then some (.iadd, 0, 0, 0, 0) else none)
                else
                  bif Nat.blt pc 443 then
                    (bif Nat.beq pc 442 then some (.iaload, 0, 0, 0, 0) else none)
                  else
                    bif Nat.beq pc 443 then some (.invokevirtual 63, 118, 3, 1, 0) else none)
            else
              bif Nat.blt pc 452 then
                (bif Nat.blt pc 450 then
                  (bif Nat.blt pc 449 then
                    (bif Nat.beq pc 446 then some (.if_icmp .eq (434), 880, 0, 0, 0) else none)
                  else
                    bif Nat.beq pc 449 then some (.iconst 0, 0, 0, 0, 0) else none)
                else
                  bif Nat.blt pc 451 then
                    (bif Nat.beq pc 450 then some (.ireturn, 0, 0, 1, 0) else none)
                  else
                    bif Nat.beq pc 451 then some (.aload_n 1, 1, 0, 0, 0) else none)
              else
                bif Nat.blt pc 455 then
                  (bif Nat.blt pc 453 then
                    (bif Nat.beq pc 452 then some (.aload_n 0, 0, 0, 0, 0) else none)
                  else
                    bif Nat.beq pc 453 then some (.iload 4, 4, 0, 0, 0) else none)
                else
                  bif Nat.blt pc 456 then
                    (bif Nat.beq pc 455 then some (.iconst 1, 0, 0, 0, 1) else none)
                  else
                    bif Nat.blt pc 457 then
                      (bif Nat.beq pc 456 then some (.iadd, 0, 0, 0, 0) else none)
                    else
                      bif Nat.beq pc 457 then some (.iaload, 0, 0, 0, 0) else none)
        else
          bif Nat.blt pc 483 then
            (bif Nat.blt pc 471 then
              (bif Nat.blt pc 465 then
                (bif Nat.blt pc 462 then
                  (bif Nat.blt pc 461 then
                    (bif Nat.beq pc 458 then some (.invokevirtual 64, 169, 2, 1, 0) else none)
                  else
                    bif Nat.beq pc 461 then some (.aload_n 2, 2, 0, 0, 0) else none)
                else
                  bif Nat.blt pc 463 then
                    (bif Nat.beq pc 462 then some (.aload_n 0, 0, 0, 0, 0) else none)
                  else
                    bif Nat.beq pc 463 then some (.iload 4, 4, 0, 0, 0) else none)
              else
                bif Nat.blt pc 467 then
                  (bif Nat.blt pc 466 then
                    (bif Nat.beq pc 465 then some (.iconst 1, 0, 0, 0, 1) else none)
                  else
                    bif Nat.beq pc 466 then some (.iadd, 0, 0, 0, 0) else none)
                else
                  bif Nat.blt pc 468 then
                    (bif Nat.beq pc 467 then some (.iaload, 0, 0, 0, 0) else none)
                  else
                    bif Nat.beq pc 468 then some (.invokevirtual 68, 126, 2, 1, 0) else none)
            else
              bif Nat.blt pc 477 then
                (bif Nat.blt pc 475 then
                  (bif Nat.blt pc 474 then
                    (bif Nat.beq pc 471 then some (.if_icmp .eq (409), 880, 0, 0, 0) else none)
                  else
                    bif Nat.beq pc 474 then some (.iconst 0, 0, 0, 0, 0) else none)
                else
                  bif Nat.blt pc 476 then
                    (bif Nat.beq pc 475 then some (.ireturn, 0, 0, 1, 0) else none)
                  else
                    bif Nat.beq pc 476 then some (.aload_n 1, 1, 0, 0, 0) else none)
              else
                bif Nat.blt pc 480 then
                  (bif Nat.blt pc 478 then
                    (bif Nat.beq pc 477 then some (.aload_n 0, 0, 0, 0, 0) else none)
                  else
                    bif Nat.beq pc 478 then some (.iload 4, 4, 0, 0, 0) else none)
                else
                  bif Nat.blt pc 481 then
                    (bif Nat.beq pc 480 then some (.iconst 1, 0, 0, 0, 1) else none)
                  else
                    bif Nat.blt pc 482 then
                      (bif Nat.beq pc 481 then some (.iadd, 0, 0, 0, 0) else none)
                    else
                      bif Nat.beq pc 482 then some (.iaload, 0, 0, 0, 0) else none)
          else
            bif Nat.blt pc 496 then
              (bif Nat.blt pc 490 then
                (bif Nat.blt pc 487 then
                  (bif Nat.blt pc 486 then
                    (bif Nat.beq pc 483 then some (.invokevirtual 69, 92, 2, 1, 0) else none)
                  else
                    bif Nat.beq pc 486 then some (.aload_n 2, 2, 0, 0, 0) else none)
                else
                  bif Nat.blt pc 488 then
                    (bif Nat.beq pc 487 then some (.aload_n 0, 0, 0, 0, 0) else none)
                  else
                    bif Nat.beq pc 488 then some (.iload 4, 4, 0, 0, 0) else none)
              else
                bif Nat.blt pc 492 then
                  (bif Nat.blt pc 491 then
                    (bif Nat.beq pc 490 then some (.iconst 1, 0, 0, 0, 1) else none)
                  else
                    bif Nat.beq pc 491 then some (.iadd, 0, 0, 0, 0) else none)
                else
                  bif Nat.blt pc 493 then
                    (bif Nat.beq pc 492 then some (.iaload, 0, 0, 0, 0) else none)
                  else
                    bif Nat.beq pc 493 then some (.invokevirtual 72, 139, 2, 1, 0) else none)
            else
              bif Nat.blt pc 502 then
                (bif Nat.blt pc 500 then
                  (bif Nat.blt pc 499 then
                    (bif Nat.beq pc 496 then some (.if_icmp .eq (384), 880, 0, 0, 0) else none)
                  else
                    bif Nat.beq pc 499 then some (.iconst 0, 0, 0, 0, 0) else none)
                else
                  bif Nat.blt pc 501 then
                    (bif Nat.beq pc 500 then some (.ireturn, 0, 0, 1, 0) else none)
                  else
                    bif Nat.beq pc 501 then some (.aload_n 1, 1, 0, 0, 0) else none)
              else
                bif Nat.blt pc 505 then
                  (bif Nat.blt pc 503 then
                    (bif Nat.beq pc 502 then some (.aload_n 0, 0, 0, 0, 0) else none)
                  else
                    bif Nat.beq pc 503 then some (.iload 4, 4, 0, 0, 0) else none)
                else
                  bif Nat.blt pc 506 then
                    (bif Nat.beq pc 505 then some (.iconst 1, 0, 0, 0, 1) else none)
                  else
                    bif Nat.blt pc 507 then
                      (bif Nat.beq pc 506 then some (.iadd, 0, 0, 0, 0) else none)
                    else
                      bif Nat.beq pc 507 then some (.iaload, 0, 0, 0, 0) else none)
  else
    bif Nat.blt pc 691 then
      (bif Nat.blt pc 601 then
        (bif Nat.blt pc 557 then
          (bif Nat.blt pc 532 then
            (bif Nat.blt pc 521 then
              (bif Nat.blt pc 515 then
                (bif Nat.blt pc 512 then
                  (bif Nat.blt pc 511 then
                    (bif Nat.beq pc 508 then some (.invokevirtual 73, 91, 2, 1, 0) else none)
                  else
                    bif Nat.beq pc 511 then some (.aload_n 2, 2, 0, 0, 0) else none)
                else
                  bif Nat.blt pc 513 then
                    (bif Nat.beq pc 512 then some (.aload_n 0, 0, 0, 0, 0) else none)
                  else
                    bif Nat.beq pc 513 then some (.iload 4, 4, 0, 0, 0) else none)
              else
                bif Nat.blt pc 517 then
                  (bif Nat.blt pc 516 then
                    (bif Nat.beq pc 515 then some (.iconst 1, 0, 0, 0, 1) else none)
                  else
                    bif Nat.beq pc 516 then some (.iadd, 0, 0, 0, 0) else none)
                else
                  bif Nat.blt pc 518 then
                    (bif Nat.beq pc 517 then some (.iaload, 0, 0, 0, 0) else none)
                  else
                    bif Nat.beq pc 518 then some (.invokevirtual 77, 140, 2, 1, 0) else none)
            else
              bif Nat.blt pc 527 then
                (bif Nat.blt pc 525 then
                  (bif Nat.blt pc 524 then
                    (bif Nat.beq pc 521 then some (.if_icmp .eq (359), 880, 0, 0, 0) else none)
                  else
                    bif Nat.beq pc 524 then some (.iconst 0, 0, 0, 0, 0) else none)
                else
                  bif Nat.blt pc 526 then
                    (bif Nat.beq pc 525 then some (.ireturn, 0, 0, 1, 0) else none)
                  else
                    bif Nat.beq pc 526 then some (.aload_n 1, 1, 0, 0, 0) else none)
              else
                bif Nat.blt pc 530 then
                  (bif Nat.blt pc 528 then
                    (bif Nat.beq pc 527 then some (.aload_n 0, 0, 0, 0, 0) else none)
                  else
                    bif Nat.beq pc 528 then some (.iload 4, 4, 0, 0, 0) else none)
                else
                  bif Nat.blt pc 531 then
                    (bif Nat.beq pc 530 then some (.iconst 1, 0, 0, 0, 1) else none)
                  else
                    bif Nat.beq pc 531 then some (.iadd, 0, 0, 0, 0) else none)
          else
            bif Nat.blt pc 543 then
              (bif Nat.blt pc 538 then
                (bif Nat.blt pc 536 then
                  (bif Nat.blt pc 533 then
                    (bif Nat.beq pc 532 then some (.iaload, 0, 0, 0, 0) else none)
                  else
                    bif Nat.beq pc 533 then some (.invokevirtual 78, 154, 2, 1, 0) else none)
                else
                  bif Nat.blt pc 537 then
                    (bif Nat.beq pc 536 then some (.aload_n 2, 2, 0, 0, 0) else none)
                  else
                    bif Nat.beq pc 537 then some (.aload_n 0, 0, 0, 0, 0) else none)
              else
                bif Nat.blt pc 541 then
                  (bif Nat.blt pc 540 then
                    (bif Nat.beq pc 538 then some (.iload 4, 4, 0, 0, 0) else none)
                  else
                    bif Nat.beq pc 540 then some (.iconst 1, 0, 0, 0, 1) else none)
                else
                  bif Nat.blt pc 542 then
                    (bif Nat.beq pc 541 then some (.iadd, 0, 0, 0, 0) else none)
                  else
                    bif Nat.beq pc 542 then some (.iaload, 0, 0, 0, 0) else none)
            else
              bif Nat.blt pc 551 then
                (bif Nat.blt pc 549 then
                  (bif Nat.blt pc 546 then
                    (bif Nat.beq pc 543 then some (.invokevirtual 81, 141, 2, 1, 0) else none)
                  else
                    bif Nat.beq pc 546 then some (.if_icmp .eq (334), 880, 0, 0, 0) else none)
                else
                  bif Nat.blt pc 550 then
                    (bif Nat.beq pc 549 then some (.iconst 0, 0, 0, 0, 0) else none)
                  else
                    bif Nat.beq pc 550 then some (.ireturn, 0, 0, 1, 0) else none)
              else
                bif Nat.blt pc 553 then
                  (bif Nat.blt pc 552 then
                    (bif Nat.beq pc 551 then some (.aload_n 1, 1, 0, 0, 0) else none)
                  else
                    bif Nat.beq pc 552 then some (.aload_n 0, 0, 0, 0, 0) else none)
                else
                  bif Nat.blt pc 555 then
                    (bif Nat.beq pc 553 then some (.iload 4, 4, 0, 0, 0) else none)
                  else
                    bif Nat.blt pc 556 then
                      (bif Nat.beq pc 555 then some (.iconst 1, 0, 0, 0, 1) else none)
                    else
                      bif Nat.beq pc 556 then some (.iadd, 0, 0, 0, 0) else none)
        else
          bif Nat.blt pc 578 then
            (bif Nat.blt pc 567 then
              (bif Nat.blt pc 562 then
                (bif Nat.blt pc 559 then
                  (bif Nat.blt pc 558 then
                    (bif Nat.beq pc 557 then some (.iaload, 0, 0, 0, 0) else none)
                  else
                    bif Nat.beq pc 558 then some (.aload_n 0, 0, 0, 0, 0) else none)
                else
                  bif Nat.blt pc 561 then
                    (bif Nat.beq pc 559 then some (.iload 4, 4, 0, 0, 0) else none)
                  else
                    bif Nat.beq pc 561 then some (.iconst 2, 0, 0, 0, 2) else none)
              else
                bif Nat.blt pc 564 then
                  (bif Nat.blt pc 563 then
                    (bif Nat.beq pc 562 then some (.iadd, 0, 0, 0, 0) else none)
                  else
                    bif Nat.beq pc 563 then some (.iaload, 0, 0, 0, 0) else none)
                else
                  bif Nat.blt pc 565 then
                    (bif Nat.beq pc 564 then some (.aload_n 0, 0, 0, 0, 0) else none)
                  else
                    bif Nat.beq pc 565 then some (.iload 4, 4, 0, 0, 0) else none)
            else
              bif Nat.blt pc 573 then
                (bif Nat.blt pc 569 then
                  (bif Nat.blt pc 568 then
                    (bif Nat.beq pc 567 then some (.iconst 3, 0, 0, 0, 3) else none)
                  else
                    bif Nat.beq pc 568 then some (.iadd, 0, 0, 0, 0) else none)
                else
                  bif Nat.blt pc 570 then
                    (bif Nat.beq pc 569 then some (.iaload, 0, 0, 0, 0) else none)
                  else
                    bif Nat.beq pc 570 then some (.invokevirtual 82, 93, 4, 1, 0) else none)
              else
                bif Nat.blt pc 575 then
                  (bif Nat.blt pc 574 then
                    (bif Nat.beq pc 573 then some (.aload_n 2, 2, 0, 0, 0) else none)
                  else
                    bif Nat.beq pc 574 then some (.aload_n 0, 0, 0, 0, 0) else none)
                else
                  bif Nat.blt pc 577 then
                    (bif Nat.beq pc 575 then some (.iload 4, 4, 0, 0, 0) else none)
                  else
                    bif Nat.beq pc 577 then some (.iconst 1, 0, 0, 0, 1) else none)
          else
            bif Nat.blt pc 587 then
              (bif Nat.blt pc 583 then
                (bif Nat.blt pc 580 then
                  (bif Nat.blt pc 579 then
                    (bif Nat.beq pc 578 then some (.iadd, 0, 0, 0, 0) else none)
                  else
                    bif Nat.beq pc 579 then some (.iaload, 0, 0, 0, 0) else none)
                else
                  bif Nat.blt pc 581 then
                    (bif Nat.beq pc 580 then some (.aload_n 0, 0, 0, 0, 0) else none)
                  else
                    bif Nat.beq pc 581 then some (.iload 4, 4, 0, 0, 0) else none)
              else
                bif Nat.blt pc 585 then
                  (bif Nat.blt pc 584 then
                    (bif Nat.beq pc 583 then some (.iconst 2, 0, 0, 0, 2) else none)
                  else
                    bif Nat.beq pc 584 then some (.iadd, 0, 0, 0, 0) else none)
                else
                  bif Nat.blt pc 586 then
                    (bif Nat.beq pc 585 then some (.iaload, 0, 0, 0, 0) else none)
                  else
                    bif Nat.beq pc 586 then some (.aload_n 0, 0, 0, 0, 0) else none)
            else
              bif Nat.blt pc 592 then
                (bif Nat.blt pc 590 then
                  (bif Nat.blt pc 589 then
                    (bif Nat.beq pc 587 then some (.iload 4, 4, 0, 0, 0) else none)
                  else
                    bif Nat.beq pc 589 then some (.iconst 3, 0, 0, 0, 3) else none)
                else
                  bif Nat.blt pc 591 then
                    (bif Nat.beq pc 590 then some (.iadd, 0, 0, 0, 0) else none)
                  else
                    bif Nat.beq pc 591 then some (.iaload, 0, 0, 0, 0) else none)
              else
                bif Nat.blt pc 598 then
                  (bif Nat.blt pc 595 then
                    (bif Nat.beq pc 592 then some (.invokevirtual 86, 142, 4, 1, 0) else none)
                  else
                    bif Nat.beq pc 595 then some (.if_icmp .eq (285), 880, 0, 0, 0) else none)
                else
                  bif Nat.blt pc 599 then
                    (bif Nat.beq pc 598 then some (.iconst 0, 0, 0, 0, 0) else none)
                  else
                    bif Nat.blt pc 600 then
                      (bif Nat.beq pc 599 then some (.ireturn, 0, 0, 1, 0) else none)
                    else
                      bif Nat.beq pc 600 then some (.aload_n 1, 1, 0, 0, 0) else none)
      else
        bif Nat.blt pc 644 then
          (bif Nat.blt pc 621 then
            (bif Nat.blt pc 611 then
              (bif Nat.blt pc 606 then
                (bif Nat.blt pc 604 then
                  (bif Nat.blt pc 602 then
                    (bif Nat.beq pc 601 then some (.aload_n 0, 0, 0, 0, 0) else none)
                  else
                    bif Nat.beq pc 602 then some (.iload 4, 4, 0, 0, 0) else none)
                else
                  bif Nat.blt pc 605 then
                    (bif Nat.beq pc 604 then some (.iconst 1, 0, 0, 0, 1) else none)
                  else
                    bif Nat.beq pc 605 then some (.iadd, 0, 0, 0, 0) else none)
              else
                bif Nat.blt pc 608 then
                  (bif Nat.blt pc 607 then
                    (bif Nat.beq pc 606 then some (.iaload, 0, 0, 0, 0) else none)
                  else
                    bif Nat.beq pc 607 then some (.aload_n 0, 0, 0, 0, 0) else none)
                else
                  bif Nat.blt pc 610 then
                    (bif Nat.beq pc 608 then some (.iload 4, 4, 0, 0, 0) else none)
                  else
                    bif Nat.beq pc 610 then some (.iconst 2, 0, 0, 0, 2) else none)
            else
              bif Nat.blt pc 616 then
                (bif Nat.blt pc 613 then
                  (bif Nat.blt pc 612 then
                    (bif Nat.beq pc 611 then some (.iadd, 0, 0, 0, 0) else none)
                  else
                    bif Nat.beq pc 612 then some (.iaload, 0, 0, 0, 0) else none)
                else
                  bif Nat.blt pc 614 then
                    (bif Nat.beq pc 613 then some (.i2l, 0, 0, 0, 0) else none)
                  else
                    bif Nat.beq pc 614 then some (.bipush 32, 0, 0, 0, 32) else none)
              else
                bif Nat.blt pc 618 then
                  (bif Nat.blt pc 617 then
                    (bif Nat.beq pc 616 then some (.lshl, 0, 0, 0, 0) else none)
                  else
                    bif Nat.beq pc 617 then some (.aload_n 0, 0, 0, 0, 0) else none)
                else
                  bif Nat.blt pc 620 then
                    (bif Nat.beq pc 618 then some (.iload 4, 4, 0, 0, 0) else none)
                  else
                    bif Nat.beq pc 620 then some (.iconst 3, 0, 0, 0, 3) else none)
          else
            bif Nat.blt pc 633 then
              (bif Nat.blt pc 627 then
                (bif Nat.blt pc 623 then
                  (bif Nat.blt pc 622 then
                    (bif Nat.beq pc 621 then some (.iadd, 0, 0, 0, 0) else none)
                  else
                    bif Nat.beq pc 622 then some (.iaload, 0, 0, 0, 0) else none)
                else
                  bif Nat.blt pc 624 then
                    (bif Nat.beq pc 623 then some (.i2l, 0, 0, 0, 0) else none)
                  else
                    bif Nat.beq pc 624 then some (.ldc2_w 37, 4294967295, 0, 0, 0) else none)
              else
                bif Nat.blt pc 629 then
                  (bif Nat.blt pc 628 then
                    (bif Nat.beq pc 627 then some (.land, 0, 0, 0, 0) else none)
                  else
                    bif Nat.beq pc 628 then some (.lor, 0, 0, 0, 0) else none)
                else
                  bif Nat.blt pc 632 then
                    (bif Nat.beq pc 629 then some (.invokevirtual 87, 94, 3, 1, 0) else none)
                  else
                    bif Nat.beq pc 632 then some (.aload_n 2, 2, 0, 0, 0) else none)
            else
              bif Nat.blt pc 638 then
                (bif Nat.blt pc 636 then
                  (bif Nat.blt pc 634 then
                    (bif Nat.beq pc 633 then some (.aload_n 0, 0, 0, 0, 0) else none)
                  else
                    bif Nat.beq pc 634 then some (.iload 4, 4, 0, 0, 0) else none)
                else
                  bif Nat.blt pc 637 then
                    (bif Nat.beq pc 636 then some (.iconst 1, 0, 0, 0, 1) else none)
                  else
                    bif Nat.beq pc 637 then some (.iadd, 0, 0, 0, 0) else none)
              else
                bif Nat.blt pc 640 then
                  (bif Nat.blt pc 639 then
                    (bif Nat.beq pc 638 then some (.iaload, 0, 0, 0, 0) else none)
                  else
                    bif Nat.beq pc 639 then some (.aload_n 0, 0, 0, 0, 0) else none)
                else
                  bif Nat.blt pc 642 then
                    (bif Nat.beq pc 640 then some (.iload 4, 4, 0, 0, 0) else none)
                  else
                    bif Nat.blt pc 643 then
                      (bif Nat.beq pc 642 then some (.iconst 2, 0, 0, 0, 2) else none)
                    else
                      bif Nat.beq pc 643 then some (.iadd, 0, 0, 0, 0) else none)
        else
          bif Nat.blt pc 669 then
            (bif Nat.blt pc 654 then
              (bif Nat.blt pc 649 then
                (bif Nat.blt pc 646 then
                  (bif Nat.blt pc 645 then
                    (bif Nat.beq pc 644 then some (.iaload, 0, 0, 0, 0) else none)
                  else
                    bif Nat.beq pc 645 then some (.i2l, 0, 0, 0, 0) else none)
                else
                  bif Nat.blt pc 648 then
                    (bif Nat.beq pc 646 then some (.bipush 32, 0, 0, 0, 32) else none)
                  else
                    bif Nat.beq pc 648 then some (.lshl, 0, 0, 0, 0) else none)
              else
                bif Nat.blt pc 652 then
                  (bif Nat.blt pc 650 then
                    (bif Nat.beq pc 649 then some (.aload_n 0, 0, 0, 0, 0) else none)
                  else
                    bif Nat.beq pc 650 then some (.iload 4, 4, 0, 0, 0) else none)
                else
                  bif Nat.blt pc 653 then
                    (bif Nat.beq pc 652 then some (.iconst 3, 0, 0, 0, 3) else none)
                  else
                    bif Nat.beq pc 653 then some (.iadd, 0, 0, 0, 0) else none)
            else
              bif Nat.blt pc 660 then
                (bif Nat.blt pc 656 then
                  (bif Nat.blt pc 655 then
                    (bif Nat.beq pc 654 then some (.iaload, 0, 0, 0, 0) else none)
                  else
                    bif Nat.beq pc 655 then some (.i2l, 0, 0, 0, 0) else none)
                else
                  bif Nat.blt pc 659 then
                    (bif Nat.beq pc 656 then some (.ldc2_w 37, 4294967295, 0, 0, 0) else none)
                  else
                    bif Nat.beq pc 659 then some (.land, 0, 0, 0, 0) else none)
              else
                bif Nat.blt pc 664 then
                  (bif Nat.blt pc 661 then
                    (bif Nat.beq pc 660 then some (.lor, 0, 0, 0, 0) else none)
                  else
                    bif Nat.beq pc 661 then some (.invokevirtual 91, 143, 3, 1, 0) else none)
                else
                  bif Nat.blt pc 667 then
                    (bif Nat.beq pc 664 then some (.if_icmp .eq (216), 880, 0, 0, 0) else none)
                  else
                    bif Nat.blt pc 668 then
                      (bif Nat.beq pc 667 then some (.iconst 0, 0, 0, 0, 0) else none)
                    else
                      bif Nat.beq pc 668 then some (.ireturn, 0, 0, 1, 0) else none)
          else
            bif Nat.blt pc 679 then
              (bif Nat.blt pc 674 then
                (bif Nat.blt pc 671 then
                  (bif Nat.blt pc 670 then
                    (bif Nat.beq pc 669 then some (.aload_n 1, 1, 0, 0, 0) else none)
                  else
                    bif Nat.beq pc 670 then some (.aload_n 0, 0, 0, 0, 0) else none)
                else
                  bif Nat.blt pc 673 then
                    (bif Nat.beq pc 671 then some (.iload 4, 4, 0, 0, 0) else none)
                  else
                    bif Nat.beq pc 673 then some (.iconst 1, 0, 0, 0, 1) else none)
              else
                bif Nat.blt pc 676 then
                  (bif Nat.blt pc 675 then
                    (bif Nat.beq pc 674 then some (.iadd, 0, 0, 0, 0) else none)
                  else
                    bif Nat.beq pc 675 then some (.iaload, 0, 0, 0, 0) else none)
                else
                  bif Nat.blt pc 677 then
                    (bif Nat.beq pc 676 then some (.aload_n 0, 0, 0, 0, 0) else none)
                  else
                    bif Nat.beq pc 677 then some (.iload 4, 4, 0, 0, 0) else none)
            else
              bif Nat.blt pc 685 then
                (bif Nat.blt pc 681 then
                  (bif Nat.blt pc 680 then
                    (bif Nat.beq pc 679 then some (.iconst 2, 0, 0, 0, 2) else none)
                  else
                    bif Nat.beq pc 680 then some (.iadd, 0, 0, 0, 0) else none)
                else
                  bif Nat.blt pc 682 then
                    (bif Nat.beq pc 681 then some (.iaload, 0, 0, 0, 0) else none)
                  else
                    bif Nat.beq pc 682 then some (.invokevirtual 92, 95, 3, 1, 0) else none)
              else
                bif Nat.blt pc 687 then
                  (bif Nat.blt pc 686 then
                    (bif Nat.beq pc 685 then some (.aload_n 2, 2, 0, 0, 0) else none)
                  else
                    bif Nat.beq pc 686 then some (.aload_n 0, 0, 0, 0, 0) else none)
                else
                  bif Nat.blt pc 689 then
                    (bif Nat.beq pc 687 then some (.iload 4, 4, 0, 0, 0) else none)
                  else
                    bif Nat.blt pc 690 then
                      (bif Nat.beq pc 689 then some (.iconst 1, 0, 0, 0, 1) else none)
                    else
                      bif Nat.beq pc 690 then some (.iadd, 0, 0, 0, 0) else none)
    else
      bif Nat.blt pc 793 then
        (bif Nat.blt pc 743 then
          (bif Nat.blt pc 718 then
            (bif Nat.blt pc 704 then
              (bif Nat.blt pc 696 then
                (bif Nat.blt pc 693 then
                  (bif Nat.blt pc 692 then
                    (bif Nat.beq pc 691 then some (.iaload, 0, 0, 0, 0) else none)
                  else
                    bif Nat.beq pc 692 then some (.aload_n 0, 0, 0, 0, 0) else none)
                else
                  bif Nat.blt pc 695 then
                    (bif Nat.beq pc 693 then some (.iload 4, 4, 0, 0, 0) else none)
                  else
                    bif Nat.beq pc 695 then some (.iconst 2, 0, 0, 0, 2) else none)
              else
                bif Nat.blt pc 698 then
                  (bif Nat.blt pc 697 then
                    (bif Nat.beq pc 696 then some (.iadd, 0, 0, 0, 0) else none)
                  else
                    bif Nat.beq pc 697 then some (.iaload, 0, 0, 0, 0) else none)
                else
                  bif Nat.blt pc 701 then
                    (bif Nat.beq pc 698 then some (.invokevirtual 95, 144, 3, 1, 0) else none)
                  else
                    bif Nat.beq pc 701 then some (.if_icmp .eq (179), 880, 0, 0, 0) else none)
            else
              bif Nat.blt pc 710 then
                (bif Nat.blt pc 706 then
                  (bif Nat.blt pc 705 then
                    (bif Nat.beq pc 704 then some (.iconst 0, 0, 0, 0, 0) else none)
                  else
                    bif Nat.beq pc 705 then some (.ireturn, 0, 0, 1, 0) else none)
                else
                  bif Nat.blt pc 707 then
                    (bif Nat.beq pc 706 then some (.aload_n 1, 1, 0, 0, 0) else none)
                  else
                    bif Nat.beq pc 707 then some (.invokevirtual 96, 96, 1, 1, 0) else none)
              else
                bif Nat.blt pc 714 then
                  (bif Nat.blt pc 711 then
                    (bif Nat.beq pc 710 then some (.aload_n 2, 2, 0, 0, 0) else none)
                  else
                    bif Nat.beq pc 711 then some (.invokevirtual 99, 146, 1, 1, 0) else none)
                else
                  bif Nat.blt pc 717 then
                    (bif Nat.beq pc 714 then some (.if_icmp .eq (166), 880, 0, 0, 0) else none)
                  else
                    bif Nat.beq pc 717 then some (.iconst 0, 0, 0, 0, 0) else none)
          else
            bif Nat.blt pc 732 then
              (bif Nat.blt pc 724 then
                (bif Nat.blt pc 720 then
                  (bif Nat.blt pc 719 then
                    (bif Nat.beq pc 718 then some (.ireturn, 0, 0, 1, 0) else none)
                  else
                    bif Nat.beq pc 719 then some (.aload_n 1, 1, 0, 0, 0) else none)
                else
                  bif Nat.blt pc 723 then
                    (bif Nat.beq pc 720 then some (.invokevirtual 100, 97, 1, 1, 0) else none)
                  else
                    bif Nat.beq pc 723 then some (.aload_n 2, 2, 0, 0, 0) else none)
              else
                bif Nat.blt pc 730 then
                  (bif Nat.blt pc 727 then
                    (bif Nat.beq pc 724 then some (.invokevirtual 103, 147, 1, 1, 0) else none)
                  else
                    bif Nat.beq pc 727 then some (.if_icmp .eq (153), 880, 0, 0, 0) else none)
                else
                  bif Nat.blt pc 731 then
                    (bif Nat.beq pc 730 then some (.iconst 0, 0, 0, 0, 0) else none)
                  else
                    bif Nat.beq pc 731 then some (.ireturn, 0, 0, 1, 0) else none)
            else
              bif Nat.blt pc 737 then
                (bif Nat.blt pc 734 then
                  (bif Nat.blt pc 733 then
                    (bif Nat.beq pc 732 then some (.aload_n 1, 1, 0, 0, 0) else none)
                  else
                    bif Nat.beq pc 733 then some (.aload_n 0, 0, 0, 0, 0) else none)
                else
                  bif Nat.blt pc 736 then
                    (bif Nat.beq pc 734 then some (.iload 4, 4, 0, 0, 0) else none)
                  else
                    bif Nat.beq pc 736 then some (.iconst 1, 0, 0, 0, 1) else none)
              else
                bif Nat.blt pc 739 then
                  (bif Nat.blt pc 738 then
                    (bif Nat.beq pc 737 then some (.iadd, 0, 0, 0, 0) else none)
                  else
                    bif Nat.beq pc 738 then some (.iaload, 0, 0, 0, 0) else none)
                else
                  bif Nat.blt pc 740 then
                    (bif Nat.beq pc 739 then some (.aload_n 0, 0, 0, 0, 0) else none)
                  else
                    bif Nat.blt pc 742 then
                      (bif Nat.beq pc 740 then some (.iload 4, 4, 0, 0, 0) else none)
                    else
                      bif Nat.beq pc 742 then some (.iconst 2, 0, 0, 0, 2) else none)
        else
          bif Nat.blt pc 768 then
            (bif Nat.blt pc 754 then
              (bif Nat.blt pc 749 then
                (bif Nat.blt pc 745 then
                  (bif Nat.blt pc 744 then
                    (bif Nat.beq pc 743 then some (.iadd, 0, 0, 0, 0) else none)
                  else
                    bif Nat.beq pc 744 then some (.iaload, 0, 0, 0, 0) else none)
                else
                  bif Nat.blt pc 748 then
                    (bif Nat.beq pc 745 then some (.invokevirtual 104, 98, 3, 1, 0) else none)
                  else
                    bif Nat.beq pc 748 then some (.aload_n 2, 2, 0, 0, 0) else none)
              else
                bif Nat.blt pc 752 then
                  (bif Nat.blt pc 750 then
                    (bif Nat.beq pc 749 then some (.aload_n 0, 0, 0, 0, 0) else none)
                  else
                    bif Nat.beq pc 750 then some (.iload 4, 4, 0, 0, 0) else none)
                else
                  bif Nat.blt pc 753 then
                    (bif Nat.beq pc 752 then some (.iconst 1, 0, 0, 0, 1) else none)
                  else
                    bif Nat.beq pc 753 then some (.iadd, 0, 0, 0, 0) else none)
            else
              bif Nat.blt pc 759 then
                (bif Nat.blt pc 756 then
                  (bif Nat.blt pc 755 then
                    (bif Nat.beq pc 754 then some (.iaload, 0, 0, 0, 0) else none)
                  else
                    bif Nat.beq pc 755 then some (.aload_n 0, 0, 0, 0, 0) else none)
                else
                  bif Nat.blt pc 758 then
                    (bif Nat.beq pc 756 then some (.iload 4, 4, 0, 0, 0) else none)
                  else
                    bif Nat.beq pc 758 then some (.iconst 2, 0, 0, 0, 2) else none)
              else
                bif Nat.blt pc 761 then
                  (bif Nat.blt pc 760 then
                    (bif Nat.beq pc 759 then some (.iadd, 0, 0, 0, 0) else none)
                  else
                    bif Nat.beq pc 760 then some (.iaload, 0, 0, 0, 0) else none)
                else
                  bif Nat.blt pc 764 then
                    (bif Nat.beq pc 761 then some (.invokevirtual 107, 148, 3, 1, 0) else none)
                  else
                    bif Nat.blt pc 767 then
                      (bif Nat.beq pc 764 then some (.if_icmp .eq (116), 880, 0, 0, 0) else none)
                    else
                      bif Nat.beq pc 767 then some (.iconst 0, 0, 0, 0, 0) else none)
          else
            bif Nat.blt pc 779 then
              (bif Nat.blt pc 773 then
                (bif Nat.blt pc 770 then
                  (bif Nat.blt pc 769 then
                    (bif Nat.beq pc 768 then some (.ireturn, 0, 0, 1, 0) else none)
                  else
                    bif Nat.beq pc 769 then some (.aload_n 1, 1, 0, 0, 0) else none)
                else
                  bif Nat.blt pc 771 then
                    (bif Nat.beq pc 770 then some (.aload_n 0, 0, 0, 0, 0) else none)
                  else
                    bif Nat.beq pc 771 then some (.iload 4, 4, 0, 0, 0) else none)
              else
                bif Nat.blt pc 775 then
                  (bif Nat.blt pc 774 then
                    (bif Nat.beq pc 773 then some (.iconst 1, 0, 0, 0, 1) else none)
                  else
                    bif Nat.beq pc 774 then some (.iadd, 0, 0, 0, 0) else none)
                else
                  bif Nat.blt pc 776 then
                    (bif Nat.beq pc 775 then some (.iaload, 0, 0, 0, 0) else none)
                  else
                    bif Nat.beq pc 776 then some (.invokevirtual 108, 99, 2, 1, 0) else none)
            else
              bif Nat.blt pc 784 then
                (bif Nat.blt pc 781 then
                  (bif Nat.blt pc 780 then
                    (bif Nat.beq pc 779 then some (.aload_n 2, 2, 0, 0, 0) else none)
                  else
                    bif Nat.beq pc 780 then some (.aload_n 0, 0, 0, 0, 0) else none)
                else
                  bif Nat.blt pc 783 then
                    (bif Nat.beq pc 781 then some (.iload 4, 4, 0, 0, 0) else none)
                  else
                    bif Nat.beq pc 783 then some (.iconst 1, 0, 0, 0, 1) else none)
              else
                bif Nat.blt pc 786 then
                  (bif Nat.blt pc 785 then
                    (bif Nat.beq pc 784 then some (.iadd, 0, 0, 0, 0) else none)
                  else
                    bif Nat.beq pc 785 then some (.iaload, 0, 0, 0, 0) else none)
                else
                  bif Nat.blt pc 789 then
                    (bif Nat.beq pc 786 then some (.invokevirtual 111, 149, 2, 1, 0) else none)
                  else
                    bif Nat.blt pc 792 then
                      (bif Nat.beq pc 789 then some (.if_icmp .eq (91), 880, 0, 0, 0) else none)
                    else
                      bif Nat.beq pc 792 then some (.iconst 0, 0, 0, 0, 0) else none)
      else
        bif Nat.blt pc 837 then
          (bif Nat.blt pc 814 then
            (bif Nat.blt pc 802 then
              (bif Nat.blt pc 798 then
                (bif Nat.blt pc 795 then
                  (bif Nat.blt pc 794 then
                    (bif Nat.beq pc 793 then some (.ireturn, 0, 0, 1, 0) else none)
                  else
                    bif Nat.beq pc 794 then some (.aload_n 1, 1, 0, 0, 0) else none)
                else
                  bif Nat.blt pc 796 then
                    (bif Nat.beq pc 795 then some (.aload_n 0, 0, 0, 0, 0) else none)
                  else
                    bif Nat.beq pc 796 then some (.iload 4, 4, 0, 0, 0) else none)
              else
                bif Nat.blt pc 800 then
                  (bif Nat.blt pc 799 then
                    (bif Nat.beq pc 798 then some (.iconst 1, 0, 0, 0, 1) else none)
                  else
                    bif Nat.beq pc 799 then some (.iadd, 0, 0, 0, 0) else none)
                else
                  bif Nat.blt pc 801 then
                    (bif Nat.beq pc 800 then some (.iaload, 0, 0, 0, 0) else none)
                  else
                    bif Nat.beq pc 801 then some (.aload_n 0, 0, 0, 0, 0) else none)
            else
              bif Nat.blt pc 807 then
                (bif Nat.blt pc 805 then
                  (bif Nat.blt pc 804 then
                    (bif Nat.beq pc 802 then some (.iload 4, 4, 0, 0, 0) else none)
                  else
                    bif Nat.beq pc 804 then some (.iconst 2, 0, 0, 0, 2) else none)
                else
                  bif Nat.blt pc 806 then
                    (bif Nat.beq pc 805 then some (.iadd, 0, 0, 0, 0) else none)
                  else
                    bif Nat.beq pc 806 then some (.iaload, 0, 0, 0, 0) else none)
              else
                bif Nat.blt pc 811 then
                  (bif Nat.blt pc 810 then
                    (bif Nat.beq pc 807 then some (.invokevirtual 112, 100, 3, 1, 0) else none)
                  else
                    bif Nat.beq pc 810 then some (.aload_n 2, 2, 0, 0, 0) else none)
                else
                  bif Nat.blt pc 812 then
                    (bif Nat.beq pc 811 then some (.aload_n 0, 0, 0, 0, 0) else none)
                  else
                    bif Nat.beq pc 812 then some (.iload 4, 4, 0, 0, 0) else none)
          else
            bif Nat.blt pc 823 then
              (bif Nat.blt pc 818 then
                (bif Nat.blt pc 816 then
                  (bif Nat.blt pc 815 then
                    (bif Nat.beq pc 814 then some (.iconst 1, 0, 0, 0, 1) else none)
                  else
                    bif Nat.beq pc 815 then some (.iadd, 0, 0, 0, 0) else none)
                else
                  bif Nat.blt pc 817 then
                    (bif Nat.beq pc 816 then some (.iaload, 0, 0, 0, 0) else none)
                  else
                    bif Nat.beq pc 817 then some (.aload_n 0, 0, 0, 0, 0) else none)
              else
                bif Nat.blt pc 821 then
                  (bif Nat.blt pc 820 then
                    (bif Nat.beq pc 818 then some (.iload 4, 4, 0, 0, 0) else none)
                  else
                    bif Nat.beq pc 820 then some (.iconst 2, 0, 0, 0, 2) else none)
                else
                  bif Nat.blt pc 822 then
                    (bif Nat.beq pc 821 then some (.iadd, 0, 0, 0, 0) else none)
                  else
                    bif Nat.beq pc 822 then some (.iaload, 0, 0, 0, 0) else none)
            else
              bif Nat.blt pc 831 then
                (bif Nat.blt pc 829 then
                  (bif Nat.blt pc 826 then
                    (bif Nat.beq pc 823 then some (.invokevirtual 115, 150, 3, 1, 0) else none)
                  else
                    bif Nat.beq pc 826 then some (.if_icmp .eq (54), 880, 0, 0, 0) else none)
                else
                  bif Nat.blt pc 830 then
                    (bif Nat.beq pc 829 then some (.iconst 0, 0, 0, 0, 0) else none)
                  else
                    bif Nat.beq pc 830 then some (.ireturn, 0, 0, 1, 0) else none)
              else
                bif Nat.blt pc 833 then
                  (bif Nat.blt pc 832 then
                    (bif Nat.beq pc 831 then some (.aload_n 1, 1, 0, 0, 0) else none)
                  else
                    bif Nat.beq pc 832 then some (.aload_n 0, 0, 0, 0, 0) else none)
                else
                  bif Nat.blt pc 835 then
                    (bif Nat.beq pc 833 then some (.iload 4, 4, 0, 0, 0) else none)
                  else
                    bif Nat.blt pc 836 then
                      (bif Nat.beq pc 835 then some (.iconst 1, 0, 0, 0, 1) else none)
                    else
                      bif Nat.beq pc 836 then some (.iadd, 0, 0, 0, 0) else none)
        else
          bif Nat.blt pc 859 then
            (bif Nat.blt pc 847 then
              (bif Nat.blt pc 842 then
                (bif Nat.blt pc 839 then
                  (bif Nat.blt pc 838 then
                    (bif Nat.beq pc 837 then some (.iaload, 0, 0, 0, 0) else none)
                  else
                    bif Nat.beq pc 838 then some (.aload_n 0, 0, 0, 0, 0) else none)
                else
                  bif Nat.blt pc 841 then
                    (bif Nat.beq pc 839 then some (.iload 4, 4, 0, 0, 0) else none)
                  else
                    bif Nat.beq pc 841 then some (.iconst 2, 0, 0, 0, 2) else none)
              else
                bif Nat.blt pc 844 then
                  (bif Nat.blt pc 843 then
                    (bif Nat.beq pc 842 then some (.iadd, 0, 0, 0, 0) else none)
                  else
                    bif Nat.beq pc 843 then some (.iaload, 0, 0, 0, 0) else none)
                else
                  bif Nat.blt pc 845 then
                    (bif Nat.beq pc 844 then some (.aload_n 0, 0, 0, 0, 0) else none)
                  else
                    bif Nat.beq pc 845 then some (.iload 4, 4, 0, 0, 0) else none)
            else
              bif Nat.blt pc 853 then
                (bif Nat.blt pc 849 then
                  (bif Nat.blt pc 848 then
                    (bif Nat.beq pc 847 then some (.iconst 3, 0, 0, 0, 3) else none)
                  else
                    bif Nat.beq pc 848 then some (.iadd, 0, 0, 0, 0) else none)
                else
                  bif Nat.blt pc 850 then
                    (bif Nat.beq pc 849 then some (.iaload, 0, 0, 0, 0) else none)
                  else
                    bif Nat.beq pc 850 then some (.invokevirtual 116, 101, 4, 1, 0) else none)
              else
                bif Nat.blt pc 855 then
                  (bif Nat.blt pc 854 then
                    (bif Nat.beq pc 853 then some (.aload_n 2, 2, 0, 0, 0) else none)
                  else
                    bif Nat.beq pc 854 then some (.aload_n 0, 0, 0, 0, 0) else none)
                else
                  bif Nat.blt pc 857 then
                    (bif Nat.beq pc 855 then some (.iload 4, 4, 0, 0, 0) else none)
                  else
                    bif Nat.blt pc 858 then
                      (bif Nat.beq pc 857 then some (.iconst 1, 0, 0, 0, 1) else none)
                    else
                      bif Nat.beq pc 858 then some (.iadd, 0, 0, 0, 0) else none)
          else
            bif Nat.blt pc 869 then
              (bif Nat.blt pc 864 then
                (bif Nat.blt pc 861 then
                  (bif Nat.blt pc 860 then
                    (bif Nat.beq pc 859 then some (.iaload, 0, 0, 0, 0) else none)
                  else
                    bif Nat.beq pc 860 then some (.aload_n 0, 0, 0, 0, 0) else none)
                else
                  bif Nat.blt pc 863 then
                    (bif Nat.beq pc 861 then some (.iload 4, 4, 0, 0, 0) else none)
                  else
                    bif Nat.beq pc 863 then some (.iconst 2, 0, 0, 0, 2) else none)
              else
                bif Nat.blt pc 866 then
                  (bif Nat.blt pc 865 then
                    (bif Nat.beq pc 864 then some (.iadd, 0, 0, 0, 0) else none)
                  else
                    bif Nat.beq pc 865 then some (.iaload, 0, 0, 0, 0) else none)
                else
                  bif Nat.blt pc 867 then
                    (bif Nat.beq pc 866 then some (.aload_n 0, 0, 0, 0, 0) else none)
                  else
                    bif Nat.beq pc 867 then some (.iload 4, 4, 0, 0, 0) else none)
            else
              bif Nat.blt pc 875 then
                (bif Nat.blt pc 871 then
                  (bif Nat.blt pc 870 then
                    (bif Nat.beq pc 869 then some (.iconst 3, 0, 0, 0, 3) else none)
                  else
                    bif Nat.beq pc 870 then some (.iadd, 0, 0, 0, 0) else none)
                else
                  bif Nat.blt pc 872 then
                    (bif Nat.beq pc 871 then some (.iaload, 0, 0, 0, 0) else none)
                  else
                    bif Nat.beq pc 872 then some (.invokevirtual 120, 152, 4, 1, 0) else none)
              else
                bif Nat.blt pc 879 then
                  (bif Nat.blt pc 878 then
                    (bif Nat.beq pc 875 then some (.if_icmp .eq (5), 880, 0, 0, 0) else none)
                  else
                    bif Nat.beq pc 878 then some (.iconst 0, 0, 0, 0, 0) else none)
                else
                  bif Nat.blt pc 880 then
                    (bif Nat.beq pc 879 then some (.ireturn, 0, 0, 1, 0) else none)
                  else
                    bif Nat.blt pc 883 then
                      (bif Nat.beq pc 880 then some (.iinc 4 6, 4, 0, 0, 6) else none)
                    else
                      bif Nat.beq pc 883 then some (.goto (-840), 43, 0, 0, 0) else none
def i_Law_b : Nat → Option Ent := ab_tab 888 t_Law_b
def h_Law_b (pc : Nat) : Nat × List Bool := bif Nat.beq pc 886 then (2, []) else bif Nat.beq pc 43 then (2, []) else bif Nat.beq pc 269 then (1, [true, true, true, true, true, false, false]) else bif Nat.beq pc 411 then (1, [true, true, true, true, true, false, false]) else bif Nat.beq pc 880 then (1, [true, true, true, true, true, false, false]) else (0, [])
def s_Law_b (pc : Nat) : List (Int32 × Nat) × Nat := bif Nat.beq pc 60 then ([(0, 148), (1, 272), (2, 309), (3, 346), (4, 414), (5, 451), (6, 476), (7, 501), (8, 526), (9, 551), (10, 600), (11, 669), (12, 706), (13, 719), (14, 732), (15, 769), (16, 794), (17, 831)], 880) else ([], 0)
noncomputable def eV_Law_b (sL : Nat) (sX : Nat → Int32) : Nat → List AV → Mm → Option Mm := ab_ev []
noncomputable def eI_Law_b (sL : Nat) (sX : Nat → Int32) : Nat → List AV → Mm → Option (Int32 × Mm) := ab_ev [(173, c_Law_write), (114, c_M_write), (102, c_M_thrown), (88, c_X_finish), (115, c_M_finish), (89, c_X_reset), (116, c_M_reset), (174, c_Law_read), (117, c_M_read), (90, c_X_close), (118, c_M_close), (169, c_X_send), (126, c_M_send), (92, c_X_deliver), (139, c_M_deliver), (91, c_X_lose), (140, c_M_lose), (154, c_X_copy), (141, c_M_copy), (93, c_X_spoil), (142, c_M_spoil), (94, c_X_raw), (143, c_M_raw), (95, c_X_craft), (144, c_M_craft), (96, c_X_tick), (146, c_M_tick), (97, c_X_packets), (147, c_M_packets), (98, c_X_packet), (148, c_M_packet), (99, c_X_closed), (149, c_M_closed), (100, c_X_about), (150, c_M_about), (101, c_X_stream), (152, c_M_stream)]
noncomputable def b_Law_b_43 (sL : Nat) (sX : Nat → Int32) (f : Nat) (v0 : Nat) (v1 : Nat) (v2 : Nat) (v3 : Nat) (v4 : Int32) (m : Mm) : Option Rs := ab_ex KT (some (sL, sX)) s_Law_b (eV_Law_b sL sX) (eI_Law_b sL sX) i_Law_b h_Law_b f 43 [some (.inr (.inr (0, some v0))), some (.inr (.inr (1, some v1))), some (.inr (.inr (28, some v2))), some (.inr (.inr (68, some v3))), some (.inl v4), none, none] [] m
noncomputable def b_Law_b_269 (sL : Nat) (sX : Nat → Int32) (f : Nat) (v0 : Nat) (v1 : Nat) (v2 : Nat) (v3 : Nat) (v4 : Int32) (m : Mm) : Option Rs := ab_ex KT (some (sL, sX)) s_Law_b (eV_Law_b sL sX) (eI_Law_b sL sX) i_Law_b h_Law_b f 269 [some (.inr (.inr (0, some v0))), some (.inr (.inr (1, some v1))), some (.inr (.inr (28, some v2))), some (.inr (.inr (68, some v3))), some (.inl v4), none, none] [] m
noncomputable def b_Law_b_411 (sL : Nat) (sX : Nat → Int32) (f : Nat) (v0 : Nat) (v1 : Nat) (v2 : Nat) (v3 : Nat) (v4 : Int32) (m : Mm) : Option Rs := ab_ex KT (some (sL, sX)) s_Law_b (eV_Law_b sL sX) (eI_Law_b sL sX) i_Law_b h_Law_b f 411 [some (.inr (.inr (0, some v0))), some (.inr (.inr (1, some v1))), some (.inr (.inr (28, some v2))), some (.inr (.inr (68, some v3))), some (.inl v4), none, none] [] m
noncomputable def b_Law_b_880 (sL : Nat) (sX : Nat → Int32) (f : Nat) (v0 : Nat) (v1 : Nat) (v2 : Nat) (v3 : Nat) (v4 : Int32) (m : Mm) : Option Rs := ab_ex KT (some (sL, sX)) s_Law_b (eV_Law_b sL sX) (eI_Law_b sL sX) i_Law_b h_Law_b f 880 [some (.inr (.inr (0, some v0))), some (.inr (.inr (1, some v1))), some (.inr (.inr (28, some v2))), some (.inr (.inr (68, some v3))), some (.inl v4), none, none] [] m
set_option maxRecDepth 100000 in
set_option maxHeartbeats 4000000 in
theorem b_Law_b_43_eq (sL : Nat) (sX : Nat → Int32) (f : Nat) (v0 : Nat) (v1 : Nat) (v2 : Nat) (v3 : Nat) (v4 : Int32) (m : Mm) : b_Law_b_43 sL sX (f + 1) v0 v1 v2 v3 v4 m =
    if ((Int32.ofNat sL) - (6 : Int32)) < v4 then
      some (.inr (886, [some (.inr (.inr (0, some v0))), some (.inr (.inr (1, some v1))), some (.inr (.inr (28, some v2))), some (.inr (.inr (68, some v3))), some (.inl v4), none, none], [], m))
    else
      (ab_ix v4 sL).bind fun i1 =>
      if ((sX i1) &&& (31 : Int32)) = (0 : Int32) then
        (ab_ix (v4 + (1 : Int32)) sL).bind fun i2 =>
        (ab_ix (v4 + (2 : Int32)) sL).bind fun i3 =>
        (ab_ix (v4 + (3 : Int32)) sL).bind fun i4 =>
        (ab_ix (v4 + (4 : Int32)) sL).bind fun i5 =>
        (ab_ix (v4 + (5 : Int32)) sL).bind fun i6 =>
        (r_Law_write v1 (sX i2) (sX i3) (sX i4) ((((sX i5)).toInt64 <<< (((32 : Int32)).toInt64 &&& 63)) ||| (((sX i6)).toInt64 &&& (Int64.ofNat 4294967295))) v3 m).bind fun z7 =>
        (ab_ix (v4 + (1 : Int32)) sL).bind fun i8 =>
        (ab_ix (v4 + (2 : Int32)) sL).bind fun i9 =>
        (ab_ix (v4 + (3 : Int32)) sL).bind fun i10 =>
        (ab_ix (v4 + (4 : Int32)) sL).bind fun i11 =>
        (ab_ix (v4 + (5 : Int32)) sL).bind fun i12 =>
        (r_M_write v2 (sX i8) (sX i9) (sX i10) ((((sX i11)).toInt64 <<< (((32 : Int32)).toInt64 &&& 63)) ||| (((sX i12)).toInt64 &&& (Int64.ofNat 4294967295))) z7.2).bind fun z13 =>
        (r_M_thrown v2 z13.2).bind fun z14 =>
        if z14.1 = z7.1 then
          if z7.1 = 0 then
            (ab_ix (0 : Int32) 1).bind fun i15 =>
            if (lg_cmp (z14.2.2.1 172 v3 i15) ((z13.1).toInt64)) = 0 then
              b_Law_b_269 sL sX f v0 v1 v2 v3 v4 z14.2
            else
              (ab_bo (0 : Int32)).bind fun y16 => some (.inl (some (.inl y16), z14.2))
          else
            b_Law_b_269 sL sX f v0 v1 v2 v3 v4 z14.2
        else
          (ab_bo (0 : Int32)).bind fun y17 => some (.inl (some (.inl y17), z14.2))
      else if ((sX i1) &&& (31 : Int32)) = (1 : Int32) then
        (ab_ix (v4 + (1 : Int32)) sL).bind fun i18 =>
        (ab_ix (v4 + (2 : Int32)) sL).bind fun i19 =>
        (r_X_finish v1 (sX i18) (sX i19) m).bind fun z20 =>
        (ab_ix (v4 + (1 : Int32)) sL).bind fun i21 =>
        (ab_ix (v4 + (2 : Int32)) sL).bind fun i22 =>
        (r_M_finish v2 (sX i21) (sX i22) z20.2).bind fun z23 =>
        if z20.1 = z23.1 then
          b_Law_b_880 sL sX f v0 v1 v2 v3 v4 z23.2
        else
          (ab_bo (0 : Int32)).bind fun y24 => some (.inl (some (.inl y24), z23.2))
      else if ((sX i1) &&& (31 : Int32)) = (2 : Int32) then
        (ab_ix (v4 + (1 : Int32)) sL).bind fun i25 =>
        (ab_ix (v4 + (2 : Int32)) sL).bind fun i26 =>
        (r_X_reset v1 (sX i25) (sX i26) m).bind fun z27 =>
        (ab_ix (v4 + (1 : Int32)) sL).bind fun i28 =>
        (ab_ix (v4 + (2 : Int32)) sL).bind fun i29 =>
        (r_M_reset v2 (sX i28) (sX i29) z27.2).bind fun z30 =>
        if z27.1 = z30.1 then
          b_Law_b_880 sL sX f v0 v1 v2 v3 v4 z30.2
        else
          (ab_bo (0 : Int32)).bind fun y31 => some (.inl (some (.inl y31), z30.2))
      else if ((sX i1) &&& (31 : Int32)) = (3 : Int32) then
        (ab_ix (v4 + (1 : Int32)) sL).bind fun i32 =>
        (ab_ix (v4 + (2 : Int32)) sL).bind fun i33 =>
        (r_Law_read v1 (sX i32) (sX i33) v3 m).bind fun z34 =>
        (ab_ix (v4 + (1 : Int32)) sL).bind fun i35 =>
        (ab_ix (v4 + (2 : Int32)) sL).bind fun i36 =>
        (r_M_read v2 (sX i35) (sX i36) z34.2).bind fun z37 =>
        (r_M_thrown v2 z37.2).bind fun z38 =>
        if z38.1 = z34.1 then
          if z34.1 = 0 then
            (ab_ix (0 : Int32) 1).bind fun i39 =>
            if (lg_cmp (z38.2.2.1 172 v3 i39) ((z37.1).toInt64)) = 0 then
              b_Law_b_411 sL sX f v0 v1 v2 v3 v4 z38.2
            else
              (ab_bo (0 : Int32)).bind fun y40 => some (.inl (some (.inl y40), z38.2))
          else
            b_Law_b_411 sL sX f v0 v1 v2 v3 v4 z38.2
        else
          (ab_bo (0 : Int32)).bind fun y41 => some (.inl (some (.inl y41), z38.2))
      else if ((sX i1) &&& (31 : Int32)) = (4 : Int32) then
        (ab_ix (v4 + (1 : Int32)) sL).bind fun i42 =>
        (ab_ix (v4 + (2 : Int32)) sL).bind fun i43 =>
        (r_X_close v1 (sX i42) (sX i43) m).bind fun z44 =>
        (ab_ix (v4 + (1 : Int32)) sL).bind fun i45 =>
        (ab_ix (v4 + (2 : Int32)) sL).bind fun i46 =>
        (r_M_close v2 (sX i45) (sX i46) z44.2).bind fun z47 =>
        if z44.1 = z47.1 then
          b_Law_b_880 sL sX f v0 v1 v2 v3 v4 z47.2
        else
          (ab_bo (0 : Int32)).bind fun y48 => some (.inl (some (.inl y48), z47.2))
      else if ((sX i1) &&& (31 : Int32)) = (5 : Int32) then
        (ab_ix (v4 + (1 : Int32)) sL).bind fun i49 =>
        (r_X_send v1 (sX i49) m).bind fun z50 =>
        (ab_ix (v4 + (1 : Int32)) sL).bind fun i51 =>
        (r_M_send v2 (sX i51) z50.2).bind fun z52 =>
        if z50.1 = z52.1 then
          b_Law_b_880 sL sX f v0 v1 v2 v3 v4 z52.2
        else
          (ab_bo (0 : Int32)).bind fun y53 => some (.inl (some (.inl y53), z52.2))
      else if ((sX i1) &&& (31 : Int32)) = (6 : Int32) then
        (ab_ix (v4 + (1 : Int32)) sL).bind fun i54 =>
        (r_X_deliver v1 (sX i54) m).bind fun z55 =>
        (ab_ix (v4 + (1 : Int32)) sL).bind fun i56 =>
        (r_M_deliver v2 (sX i56) z55.2).bind fun z57 =>
        if z55.1 = z57.1 then
          b_Law_b_880 sL sX f v0 v1 v2 v3 v4 z57.2
        else
          (ab_bo (0 : Int32)).bind fun y58 => some (.inl (some (.inl y58), z57.2))
      else if ((sX i1) &&& (31 : Int32)) = (7 : Int32) then
        (ab_ix (v4 + (1 : Int32)) sL).bind fun i59 =>
        (r_X_lose v1 (sX i59) m).bind fun z60 =>
        (ab_ix (v4 + (1 : Int32)) sL).bind fun i61 =>
        (r_M_lose v2 (sX i61) z60.2).bind fun z62 =>
        if z60.1 = z62.1 then
          b_Law_b_880 sL sX f v0 v1 v2 v3 v4 z62.2
        else
          (ab_bo (0 : Int32)).bind fun y63 => some (.inl (some (.inl y63), z62.2))
      else if ((sX i1) &&& (31 : Int32)) = (8 : Int32) then
        (ab_ix (v4 + (1 : Int32)) sL).bind fun i64 =>
        (r_X_copy v1 (sX i64) m).bind fun z65 =>
        (ab_ix (v4 + (1 : Int32)) sL).bind fun i66 =>
        (r_M_copy v2 (sX i66) z65.2).bind fun z67 =>
        if z65.1 = z67.1 then
          b_Law_b_880 sL sX f v0 v1 v2 v3 v4 z67.2
        else
          (ab_bo (0 : Int32)).bind fun y68 => some (.inl (some (.inl y68), z67.2))
      else if ((sX i1) &&& (31 : Int32)) = (9 : Int32) then
        (ab_ix (v4 + (1 : Int32)) sL).bind fun i69 =>
        (ab_ix (v4 + (2 : Int32)) sL).bind fun i70 =>
        (ab_ix (v4 + (3 : Int32)) sL).bind fun i71 =>
        (r_X_spoil v1 (sX i69) (sX i70) (sX i71) m).bind fun z72 =>
        (ab_ix (v4 + (1 : Int32)) sL).bind fun i73 =>
        (ab_ix (v4 + (2 : Int32)) sL).bind fun i74 =>
        (ab_ix (v4 + (3 : Int32)) sL).bind fun i75 =>
        (r_M_spoil v2 (sX i73) (sX i74) (sX i75) z72.2).bind fun z76 =>
        if z72.1 = z76.1 then
          b_Law_b_880 sL sX f v0 v1 v2 v3 v4 z76.2
        else
          (ab_bo (0 : Int32)).bind fun y77 => some (.inl (some (.inl y77), z76.2))
      else if ((sX i1) &&& (31 : Int32)) = (10 : Int32) then
        (ab_ix (v4 + (1 : Int32)) sL).bind fun i78 =>
        (ab_ix (v4 + (2 : Int32)) sL).bind fun i79 =>
        (ab_ix (v4 + (3 : Int32)) sL).bind fun i80 =>
        (r_X_raw v1 (sX i78) ((((sX i79)).toInt64 <<< (((32 : Int32)).toInt64 &&& 63)) ||| (((sX i80)).toInt64 &&& (Int64.ofNat 4294967295))) m).bind fun z81 =>
        (ab_ix (v4 + (1 : Int32)) sL).bind fun i82 =>
        (ab_ix (v4 + (2 : Int32)) sL).bind fun i83 =>
        (ab_ix (v4 + (3 : Int32)) sL).bind fun i84 =>
        (r_M_raw v2 (sX i82) ((((sX i83)).toInt64 <<< (((32 : Int32)).toInt64 &&& 63)) ||| (((sX i84)).toInt64 &&& (Int64.ofNat 4294967295))) z81.2).bind fun z85 =>
        if z81.1 = z85.1 then
          b_Law_b_880 sL sX f v0 v1 v2 v3 v4 z85.2
        else
          (ab_bo (0 : Int32)).bind fun y86 => some (.inl (some (.inl y86), z85.2))
      else if ((sX i1) &&& (31 : Int32)) = (11 : Int32) then
        (ab_ix (v4 + (1 : Int32)) sL).bind fun i87 =>
        (ab_ix (v4 + (2 : Int32)) sL).bind fun i88 =>
        (r_X_craft v1 (sX i87) (sX i88) m).bind fun z89 =>
        (ab_ix (v4 + (1 : Int32)) sL).bind fun i90 =>
        (ab_ix (v4 + (2 : Int32)) sL).bind fun i91 =>
        (r_M_craft v2 (sX i90) (sX i91) z89.2).bind fun z92 =>
        if z89.1 = z92.1 then
          b_Law_b_880 sL sX f v0 v1 v2 v3 v4 z92.2
        else
          (ab_bo (0 : Int32)).bind fun y93 => some (.inl (some (.inl y93), z92.2))
      else if ((sX i1) &&& (31 : Int32)) = (12 : Int32) then
        (r_X_tick v1 m).bind fun z94 =>
        (r_M_tick v2 z94.2).bind fun z95 =>
        if z94.1 = z95.1 then
          b_Law_b_880 sL sX f v0 v1 v2 v3 v4 z95.2
        else
          (ab_bo (0 : Int32)).bind fun y96 => some (.inl (some (.inl y96), z95.2))
      else if ((sX i1) &&& (31 : Int32)) = (13 : Int32) then
        (r_X_packets v1 m).bind fun z97 =>
        (r_M_packets v2 z97.2).bind fun z98 =>
        if z97.1 = z98.1 then
          b_Law_b_880 sL sX f v0 v1 v2 v3 v4 z98.2
        else
          (ab_bo (0 : Int32)).bind fun y99 => some (.inl (some (.inl y99), z98.2))
      else if ((sX i1) &&& (31 : Int32)) = (14 : Int32) then
        (ab_ix (v4 + (1 : Int32)) sL).bind fun i100 =>
        (ab_ix (v4 + (2 : Int32)) sL).bind fun i101 =>
        (r_X_packet v1 (sX i100) (sX i101) m).bind fun z102 =>
        (ab_ix (v4 + (1 : Int32)) sL).bind fun i103 =>
        (ab_ix (v4 + (2 : Int32)) sL).bind fun i104 =>
        (r_M_packet v2 (sX i103) (sX i104) z102.2).bind fun z105 =>
        if z102.1 = z105.1 then
          b_Law_b_880 sL sX f v0 v1 v2 v3 v4 z105.2
        else
          (ab_bo (0 : Int32)).bind fun y106 => some (.inl (some (.inl y106), z105.2))
      else if ((sX i1) &&& (31 : Int32)) = (15 : Int32) then
        (ab_ix (v4 + (1 : Int32)) sL).bind fun i107 =>
        (r_X_closed v1 (sX i107) m).bind fun z108 =>
        (ab_ix (v4 + (1 : Int32)) sL).bind fun i109 =>
        (r_M_closed v2 (sX i109) z108.2).bind fun z110 =>
        if z108.1 = z110.1 then
          b_Law_b_880 sL sX f v0 v1 v2 v3 v4 z110.2
        else
          (ab_bo (0 : Int32)).bind fun y111 => some (.inl (some (.inl y111), z110.2))
      else if ((sX i1) &&& (31 : Int32)) = (16 : Int32) then
        (ab_ix (v4 + (1 : Int32)) sL).bind fun i112 =>
        (ab_ix (v4 + (2 : Int32)) sL).bind fun i113 =>
        (r_X_about v1 (sX i112) (sX i113) m).bind fun z114 =>
        (ab_ix (v4 + (1 : Int32)) sL).bind fun i115 =>
        (ab_ix (v4 + (2 : Int32)) sL).bind fun i116 =>
        (r_M_about v2 (sX i115) (sX i116) z114.2).bind fun z117 =>
        if z114.1 = z117.1 then
          b_Law_b_880 sL sX f v0 v1 v2 v3 v4 z117.2
        else
          (ab_bo (0 : Int32)).bind fun y118 => some (.inl (some (.inl y118), z117.2))
      else if ((sX i1) &&& (31 : Int32)) = (17 : Int32) then
        (ab_ix (v4 + (1 : Int32)) sL).bind fun i119 =>
        (ab_ix (v4 + (2 : Int32)) sL).bind fun i120 =>
        (ab_ix (v4 + (3 : Int32)) sL).bind fun i121 =>
        (r_X_stream v1 (sX i119) (sX i120) (sX i121) m).bind fun z122 =>
        (ab_ix (v4 + (1 : Int32)) sL).bind fun i123 =>
        (ab_ix (v4 + (2 : Int32)) sL).bind fun i124 =>
        (ab_ix (v4 + (3 : Int32)) sL).bind fun i125 =>
        (r_M_stream v2 (sX i123) (sX i124) (sX i125) z122.2).bind fun z126 =>
        if z122.1 = z126.1 then
          b_Law_b_880 sL sX f v0 v1 v2 v3 v4 z126.2
        else
          (ab_bo (0 : Int32)).bind fun y127 => some (.inl (some (.inl y127), z126.2))
      else 
        b_Law_b_880 sL sX f v0 v1 v2 v3 v4 m := rfl
set_option maxRecDepth 100000 in
set_option maxHeartbeats 4000000 in
theorem b_Law_b_269_eq (sL : Nat) (sX : Nat → Int32) (f : Nat) (v0 : Nat) (v1 : Nat) (v2 : Nat) (v3 : Nat) (v4 : Int32) (m : Mm) : b_Law_b_269 sL sX (f + 1) v0 v1 v2 v3 v4 m =
    b_Law_b_880 sL sX f v0 v1 v2 v3 v4 m := rfl
set_option maxRecDepth 100000 in
set_option maxHeartbeats 4000000 in
theorem b_Law_b_411_eq (sL : Nat) (sX : Nat → Int32) (f : Nat) (v0 : Nat) (v1 : Nat) (v2 : Nat) (v3 : Nat) (v4 : Int32) (m : Mm) : b_Law_b_411 sL sX (f + 1) v0 v1 v2 v3 v4 m =
    b_Law_b_880 sL sX f v0 v1 v2 v3 v4 m := rfl
set_option maxRecDepth 100000 in
set_option maxHeartbeats 4000000 in
theorem b_Law_b_880_eq (sL : Nat) (sX : Nat → Int32) (f : Nat) (v0 : Nat) (v1 : Nat) (v2 : Nat) (v3 : Nat) (v4 : Int32) (m : Mm) : b_Law_b_880 sL sX (f + 1) v0 v1 v2 v3 v4 m =
    ab_let (v4 + (6 : Int32)) fun x1 =>
    some (.inr (43, [some (.inr (.inr (0, some v0))), some (.inr (.inr (1, some v1))), some (.inr (.inr (28, some v2))), some (.inr (.inr (68, some v3))), some (.inl x1), none, none], [], m)) := rfl
end
